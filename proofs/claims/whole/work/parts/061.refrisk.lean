/-! THE REFERENCE: texts worked out, risks, holds, steps -/
def pvN (nm : Int → Int) (c : Int) : Int := if 0 ≤ c then c else nm (-c)
def cdL (f : Int → Int) (i : Nat) : List Int := (List.range (vm f (4 + 2 * i) 2).toNat).map (fun k : Nat => vm f (4 + 2 * i + 1) k)
theorem dep_pre {pv : Int → Int} {g : Nat → Int} : ∀ {n q : Nat}, dep ((List.range n).map g) ≠ none → q < n → dpS (some (evS pv ((List.range q).map g)).length) (g q) ≠ none
  | 0, q, _, h => absurd h (by omega)
  | n + 1, q, h, hq => by
    have e : dep ((List.range (n + 1)).map g) = dpS (dep ((List.range n).map g)) (g n) := by
      unfold dep
      rw [List.range_succ, List.map_append, List.foldl_append]
      rfl
    rw [e] at h
    cases hd : dep ((List.range n).map g) with
    | none => rw [hd] at h; exact absurd rfl h
    | some d =>
      by_cases hqn : q = n
      · subst hqn
        have hl := dep_len (pv := pv) ((List.range q).map g) [] d hd
        have e2 : (evS pv ((List.range q).map g)).length = d := hl
        rw [hd] at h
        rw [e2]; exact h
      · exact dep_pre (by rw [hd]; exact fun q => by cases q) (by omega)
theorem dp_not {d : Nat} (h : dpS (some d) (-33) ≠ none) : 1 ≤ d := by
  unfold dpS at h
  by_cases e : 1 ≤ d
  · exact e
  · simp [e] at h
theorem dp_bin {d : Nat} {c : Int} (h1 : c ≠ -33) (h2 : ¬ (0 ≤ c ∨ (97 ≤ -c ∧ -c ≤ 122))) (h : dpS (some d) c ≠ none) : 2 ≤ d := by
  unfold dpS at h
  by_cases e : 2 ≤ d
  · exact e
  · simp only [h1, if_false, if_neg h2, e] at h
    exact absurd rfl h
theorem tx_f {f : Int → Int} {i : Nat} (hT : tI f) (hi : i < (f 1).toNat) : (0 ≤ vm f (4 + 2 * i) 2 ∧ vm f (4 + 2 * i) 2 ≤ 96) ∧ dep (cdL f i) = some 1 ∧ (∀ c ∈ cdL f i, cdOK (vm f (4 + 2 * i) 0) c) := by
  obtain ⟨h1, ⟨h2, h3, h4, h5⟩, h6⟩ := hT
  have hm : (vm f (4 + 2 * i) 0, vm f (4 + 2 * i) 1, cdL f i) ∈ LLc (vm f) (f 1).toNat := List.mem_map.mpr ⟨i, List.mem_range.mpr hi, rfl⟩
  obtain ⟨-, -, -, w4, w5, -⟩ := h5 _ hm
  exact ⟨h3 i hi, w4, w5⟩
theorem stE_cg {pv pv' : Int → Int} {S : List Int} {c : Int} (h : (0 ≤ c ∨ (97 ≤ -c ∧ -c ≤ 122)) → pv c = pv' c) : stE pv S c = stE pv' S c := by
  unfold stE
  split
  · rfl
  · split
    · rename_i h2; rw [h h2]
    · rfl
theorem ev_fold {pv pv' : Int → Int} : ∀ (cs S : List Int), (∀ c ∈ cs, (0 ≤ c ∨ (97 ≤ -c ∧ -c ≤ 122)) → pv c = pv' c) → cs.foldl (stE pv) S = cs.foldl (stE pv') S
  | [], _, _ => rfl
  | c :: t, S, h => by
    show t.foldl (stE pv) (stE pv S c) = t.foldl (stE pv') (stE pv' S c)
    rw [stE_cg (h c List.mem_cons_self)]
    exact ev_fold t _ (fun c hc => h c (List.mem_cons_of_mem _ hc))
theorem evL_cg {pv pv' : Int → Int} {cs : List Int} (h : ∀ c ∈ cs, (0 ≤ c ∨ (97 ≤ -c ∧ -c ≤ 122)) → pv c = pv' c) : evL pv cs = evL pv' cs := by
  unfold evL evS
  rw [ev_fold cs [] h]
theorem pv_0 {nm : Int → Int} {s t d c : Int} (h : cdOK 0 c) (hp : 0 ≤ c ∨ (97 ≤ -c ∧ -c ≤ 122)) (h1 : nm 115 = s) (h2 : nm 108 = t) (h3 : nm 100 = d) : pvN nm c = pvW s t d c := by
  unfold pvN pvW
  by_cases e : 0 ≤ c
  · rw [if_pos e, if_pos e]
  · rw [if_neg e, if_neg e]
    rcases (show c = -115 ∨ c = -108 ∨ c = -100 by unfold cdOK at h; omega) with q | q | q <;> subst q
    · exact h1
    · exact h2
    · exact h3
theorem pv_1 {nm : Int → Int} {s t d c : Int} (h : cdOK 1 c) (hp : 0 ≤ c ∨ (97 ≤ -c ∧ -c ≤ 122)) (h1 : nm 115 = s) (h2 : nm 114 = t) : pvN nm c = pvW s t d c := by
  unfold pvN pvW
  by_cases e : 0 ≤ c
  · rw [if_pos e, if_pos e]
  · rw [if_neg e, if_neg e]
    rcases (show c = -115 ∨ c = -114 by unfold cdOK at h; omega) with q | q <;> subst q
    · exact h1
    · exact h2
theorem pv_2 {nm : Int → Int} {s t d c : Int} (h : cdOK 2 c) (hp : 0 ≤ c ∨ (97 ≤ -c ∧ -c ≤ 122)) (h1 : nm 115 = s) (h2 : nm 117 = t) : pvN nm c = pvW s t d c := by
  unfold pvN pvW
  by_cases e : 0 ≤ c
  · rw [if_pos e, if_pos e]
  · rw [if_neg e, if_neg e]
    rcases (show c = -115 ∨ c = -117 by unfold cdOK at h; omega) with q | q <;> subst q
    · exact h1
    · exact h2

set_option maxRecDepth 100000 in
set_option maxHeartbeats 4000000 in
theorem ct_X10_worked {l : Launch} {D : va_G} {cA : Nat → ClassId} {μ : Mem} (hT : tI (μ 88)) (i : Nat) (hi : i < (μ 88 1).toNat) : CtN l D cA yX10_worked cX10_worked 6 (some .int) 2 [vr 87, vi (i : Nat)] μ (Pi (fun x μ' => x = evL (pvN (μ 108)) (cdL (μ 88) i) ∧ ∀ q, q ≠ 109 → μ' q = μ q)) := by
  refine Ct.of (own := RX10) (by decide +kernel) rfl (fun σ => Nat.le_of_ble_eq_true rfl) (fun hM hP ha => ?_)
  obtain ⟨m87, r88, s88, r89, s89, r90, s90, r91, s91, r92, s92, r93, s93, r94, s94, r95, s95, r96, s96, r97, s97, r98, s98, r99, s99, r100, s100, r101, s101, r102, s102, r103, s103, r104, s104, r105, s105, r106, s106, r107, s107, r108, s108, r109, s109, r110, s110, r111, s111, r112, s112⟩ := md_f
  have iX := hT.1
  have htx := tx_f hT hi
  have hln : vm (μ 88) (4 + 2 * i) 2 = μ 88 (122 + 200 * (i : Nat) + 2) := vm_lw (by omega) (by omega) (by omega)
  have loop : ∀ (m : Nat) (q : Int) (top : Int) (μ1 : Mem) (S : List Int), (μ 88 (122 + 200 * (i : Nat) + 2)) - q = (m : Nat) → 0 ≤ q → (S = evS (pvN (μ 108)) ((List.range q.toNat).map (fun k : Nat => vm (μ 88) (4 + 2 * i + 1) k))) → (top = (S.length : Nat)) → (top ≤ q) → (stk (μ1 109) S) → (∀ r, r ≠ 109 → μ1 r = μ r) → Go l D cA none RX10 cX10_worked 6 (some .int) (2, 0, 0) (QN (Pi (fun x μ' => x = evL (pvN (μ 108)) (cdL (μ 88) i) ∧ ∀ q, q ≠ 109 → μ' q = μ q))) 113 ρ0 0 0 4 [(0, vr 87), (1, vi (i : Nat)), (2, vi top), (3, vi q)] [] μ1 := by
    intro m
    induction m with
    | zero =>
      intro q top μ1 S hm hv hS htop htq hst hf
      have e88 : μ1 88 = μ 88 := hf _ (by omega)
      refine go_iload_n dX10_worked_4 rfl ?_
      refine go_aload_n dX10_worked_5 rfl ?_
      refine go_getR dX10_worked_6 fl_X10_7 (by first | assumption | exact Nat.le_of_ble_eq_true rfl) (by first | assumption | rfl) rfl (by first | assumption | rfl) ?_
      refine go_aload_n dX10_worked_9 rfl ?_
      refine go_iload_n dX10_worked_10 rfl ?_
      refine go_vI (ci := 9) dX10_worked_11 (ct_X10_textAt _ (by omega) (by omega)) ml_X10_304 mc_X10_textAt mv_X10_textAt rfl (by first | assumption | exact Nat.le_of_ble_eq_true rfl) (by first | assumption | rfl) rfl ⟨rfl, rfl⟩ ⟨Nat.le_refl _, Nat.le_refl _⟩ rfl rfl rfl (fun x11 μ11 hc11 => ?_)
      obtain ⟨rfl, hm11⟩ := hc11
      rw [hm11]
      refine go_iconst dX10_worked_14 rfl ?_
      refine go_iadd dX10_worked_15 ⟨by omega, by omega⟩ ?_
      refine go_iaload dX10_worked_16 (by first | assumption | exact Nat.le_of_ble_eq_true rfl) (by first | assumption | rfl) (by omega) (by omega) ?_
      try simp (disch := omega) only [ud, ua_same, ua_ne, uf_same, uf_ne]
      rw [e88]
      refine go_icmp_ge (tgt := 163) dX10_worked_17 rfl (fun h17 => ?_) (fun h17 => ?_)
      ·
        refine go_aload_n dX10_worked_163 rfl ?_
        refine go_getR dX10_worked_164 fl_X10_74 (by first | assumption | exact Nat.le_of_ble_eq_true rfl) (by first | assumption | rfl) rfl (by first | assumption | rfl) ?_
        refine go_iconst dX10_worked_167 rfl ?_
        refine go_iaload dX10_worked_168 (by first | assumption | exact Nat.le_of_ble_eq_true rfl) (by first | assumption | rfl) (by omega) (by omega) ?_
        try simp (disch := omega) only [ud, ua_same, ua_ne, uf_same, uf_ne]
        exact go_ri dX10_worked_169 tyI ⟨Nat.le_refl _, Nat.le_refl _⟩ (⟨by rw [show q.toNat = (vm (μ 88) (4 + 2 * i) 2).toNat by omega] at hS; rw [stk_last hst (by rw [hS]; exact wf_ne htx.2.1), hS]; rfl, hf⟩)
      ·
        exact absurd h17 (by omega)
    | succ m ih =>
      intro q top μ1 S hm hv hS htop htq hst hf
      have e88 : μ1 88 = μ 88 := hf _ (by omega)
      refine go_iload_n dX10_worked_4 rfl ?_
      refine go_aload_n dX10_worked_5 rfl ?_
      refine go_getR dX10_worked_6 fl_X10_7 (by first | assumption | exact Nat.le_of_ble_eq_true rfl) (by first | assumption | rfl) rfl (by first | assumption | rfl) ?_
      refine go_aload_n dX10_worked_9 rfl ?_
      refine go_iload_n dX10_worked_10 rfl ?_
      refine go_vI (ci := 9) dX10_worked_11 (ct_X10_textAt _ (by omega) (by omega)) ml_X10_304 mc_X10_textAt mv_X10_textAt rfl (by first | assumption | exact Nat.le_of_ble_eq_true rfl) (by first | assumption | rfl) rfl ⟨rfl, rfl⟩ ⟨Nat.le_refl _, Nat.le_refl _⟩ rfl rfl rfl (fun x11 μ11 hc11 => ?_)
      obtain ⟨rfl, hm11⟩ := hc11
      rw [hm11]
      refine go_iconst dX10_worked_14 rfl ?_
      refine go_iadd dX10_worked_15 ⟨by omega, by omega⟩ ?_
      refine go_iaload dX10_worked_16 (by first | assumption | exact Nat.le_of_ble_eq_true rfl) (by first | assumption | rfl) (by omega) (by omega) ?_
      try simp (disch := omega) only [ud, ua_same, ua_ne, uf_same, uf_ne]
      rw [e88]
      refine go_icmp_ge (tgt := 163) dX10_worked_17 rfl (fun h17 => ?_) (fun h17 => ?_)
      ·
        exact absurd h17 (by omega)
      ·
        have hso := hT.2.2 i q hi hv (by omega)
        have hcd := vm_cd (f := μ 88) (i := i) (k := q) (by omega) hv (by omega)
        have hgq : vm (μ 88) (4 + 2 * i + 1) ((q.toNat : Nat) : Int) = vm (μ 88) (4 + 2 * i + 1) q := by rw [show ((q.toNat : Nat) : Int) = q by omega]
        have hdp := dep_pre (pv := pvN (μ 108)) (g := (fun k : Nat => vm (μ 88) (4 + 2 * i + 1) k)) (n := (vm (μ 88) (4 + 2 * i) 2).toNat) (q := q.toNat) (by have := htx.2.1; unfold cdL at this; rw [this]; exact fun q => by cases q) (by omega)
        rw [← hS] at hdp
        simp only [hgq] at hdp
        have hE : evS (pvN (μ 108)) ((List.range (q + 1).toNat).map (fun k : Nat => vm (μ 88) (4 + 2 * i + 1) k)) = stE (pvN (μ 108)) S (vm (μ 88) (4 + 2 * i + 1) q) := by rw [show (q + 1).toNat = q.toNat + 1 by omega, evS_succ, ← hS]; simp only [hgq]
        obtain ⟨w, hw⟩ : ∃ w, w = μ 88 (122 + 200 * (i : Nat) + 4 + 2 * q) := ⟨_, rfl⟩
        obtain ⟨v, hv2⟩ : ∃ v, v = μ 88 (122 + 200 * (i : Nat) + 4 + 2 * q + 1) := ⟨_, rfl⟩
        rw [← hw, ← hv2] at hso hcd
        unfold stOK sgN at hso
        refine go_aload_n dX10_worked_20 rfl ?_
        refine go_getR dX10_worked_21 fl_X10_7 (by first | assumption | exact Nat.le_of_ble_eq_true rfl) (by first | assumption | rfl) rfl (by first | assumption | rfl) ?_
        refine go_aload_n dX10_worked_24 rfl ?_
        refine go_iload_n dX10_worked_25 rfl ?_
        refine go_vI (ci := 9) dX10_worked_26 (ct_X10_textAt _ (by omega) (by omega)) ml_X10_304 mc_X10_textAt mv_X10_textAt rfl (by first | assumption | exact Nat.le_of_ble_eq_true rfl) (by first | assumption | rfl) rfl ⟨rfl, rfl⟩ ⟨Nat.le_refl _, Nat.le_refl _⟩ rfl rfl rfl (fun x26 μ26 hc26 => ?_)
        obtain ⟨rfl, hm26⟩ := hc26
        rw [hm26]
        refine go_iconst dX10_worked_29 rfl ?_
        refine go_iadd dX10_worked_30 ⟨by omega, by omega⟩ ?_
        refine go_iconst dX10_worked_31 rfl ?_
        refine go_iload_n dX10_worked_32 rfl ?_
        refine go_imul dX10_worked_33 ⟨by omega, by omega⟩ ?_
        refine go_iadd dX10_worked_34 ⟨by omega, by omega⟩ ?_
        refine go_iaload dX10_worked_35 (by first | assumption | exact Nat.le_of_ble_eq_true rfl) (by first | assumption | rfl) (by omega) (by omega) ?_
        try simp (disch := omega) only [ud, ua_same, ua_ne, uf_same, uf_ne]
        rw [e88, ← hw]
        refine go_istore dX10_worked_36 rfl ?_
        refine go_aload_n dX10_worked_38 rfl ?_
        refine go_getR dX10_worked_39 fl_X10_7 (by first | assumption | exact Nat.le_of_ble_eq_true rfl) (by first | assumption | rfl) rfl (by first | assumption | rfl) ?_
        refine go_aload_n dX10_worked_42 rfl ?_
        refine go_iload_n dX10_worked_43 rfl ?_
        refine go_vI (ci := 9) dX10_worked_44 (ct_X10_textAt _ (by omega) (by omega)) ml_X10_304 mc_X10_textAt mv_X10_textAt rfl (by first | assumption | exact Nat.le_of_ble_eq_true rfl) (by first | assumption | rfl) rfl ⟨rfl, rfl⟩ ⟨Nat.le_refl _, Nat.le_refl _⟩ rfl rfl rfl (fun x44 μ44 hc44 => ?_)
        obtain ⟨rfl, hm44⟩ := hc44
        rw [hm44]
        refine go_iconst dX10_worked_47 rfl ?_
        refine go_iadd dX10_worked_48 ⟨by omega, by omega⟩ ?_
        refine go_iconst dX10_worked_49 rfl ?_
        refine go_iload_n dX10_worked_50 rfl ?_
        refine go_imul dX10_worked_51 ⟨by omega, by omega⟩ ?_
        refine go_iadd dX10_worked_52 ⟨by omega, by omega⟩ ?_
        refine go_iconst dX10_worked_53 rfl ?_
        refine go_iadd dX10_worked_54 ⟨by omega, by omega⟩ ?_
        refine go_iaload dX10_worked_55 (by first | assumption | exact Nat.le_of_ble_eq_true rfl) (by first | assumption | rfl) (by omega) (by omega) ?_
        try simp (disch := omega) only [ud, ua_same, ua_ne, uf_same, uf_ne]
        rw [e88, ← hv2]
        refine go_istore dX10_worked_56 rfl ?_
        refine go_iload dX10_worked_58 rfl ?_
        refine go_iconst dX10_worked_60 rfl ?_
        refine go_icmp_eq (tgt := 93) dX10_worked_61 rfl (fun h61 => ?_) (fun h61 => ?_)
        ·
          refine go_iload dX10_worked_93 rfl ?_
          refine go_bipush dX10_worked_95 rfl (by decide) ?_
          refine go_icmp_ne (tgt := 127) dX10_worked_97 rfl (fun h97 => ?_) (fun h97 => ?_)
          ·
            rw [hcd, show cdV w v = -v from if_neg (by omega)] at hdp
            have hd2 := dp_bin (by omega) (by omega) hdp
            obtain ⟨x2, y2, t2, rfl⟩ := two_of hd2
            have hl2 : ((x2 :: y2 :: t2).length : Int) = t2.length + 2 := by simp; omega
            have hx : μ1 109 (top + -1) = x2 := by rw [show top + -1 = ((y2 :: t2).length : Nat) by simp; omega]; exact hst.1
            have hy : μ1 109 (top + -1 - 1) = y2 := by rw [show top + -1 - 1 = (t2.length : Nat) by omega]; exact hst.2.1
            refine go_iinc dX10_worked_127 rfl rfl ⟨by omega, by omega⟩ ?_
            refine go_aload_n dX10_worked_130 rfl ?_
            refine go_getR dX10_worked_131 fl_X10_74 (by first | assumption | exact Nat.le_of_ble_eq_true rfl) (by first | assumption | rfl) rfl (by first | assumption | rfl) ?_
            refine go_iload_n dX10_worked_134 rfl ?_
            refine go_iconst dX10_worked_135 rfl ?_
            refine go_isub dX10_worked_136 ⟨by omega, by omega⟩ ?_
            refine go_iload dX10_worked_137 rfl ?_
            refine go_aload_n dX10_worked_139 rfl ?_
            refine go_getR dX10_worked_140 fl_X10_74 (by first | assumption | exact Nat.le_of_ble_eq_true rfl) (by first | assumption | rfl) rfl (by first | assumption | rfl) ?_
            refine go_iload_n dX10_worked_143 rfl ?_
            refine go_iconst dX10_worked_144 rfl ?_
            refine go_isub dX10_worked_145 ⟨by omega, by omega⟩ ?_
            refine go_iaload dX10_worked_146 (by first | assumption | exact Nat.le_of_ble_eq_true rfl) (by first | assumption | rfl) (by omega) (by omega) ?_
            try simp (disch := omega) only [ud, ua_same, ua_ne, uf_same, uf_ne]
            refine go_aload_n dX10_worked_147 rfl ?_
            refine go_getR dX10_worked_148 fl_X10_74 (by first | assumption | exact Nat.le_of_ble_eq_true rfl) (by first | assumption | rfl) rfl (by first | assumption | rfl) ?_
            refine go_iload_n dX10_worked_151 rfl ?_
            refine go_iaload dX10_worked_152 (by first | assumption | exact Nat.le_of_ble_eq_true rfl) (by first | assumption | rfl) (by omega) (by omega) ?_
            try simp (disch := omega) only [ud, ua_same, ua_ne, uf_same, uf_ne]
            rw [hx, hy]
            refine go_sI dX10_worked_153 (ct_X10_joined _ _ _ (by omega)) ml_X10_319 mc_X10_joined ms_X10_joined ⟨rfl, rfl⟩ ⟨Nat.le_refl _, Nat.le_refl _⟩ rfl rfl rfl (fun x153 μ153 hc153 => ?_)
            obtain ⟨rfl, hm153⟩ := hc153
            rw [hm153]
            refine go_iastore dX10_worked_156 (by first | assumption | exact Nat.le_of_ble_eq_true rfl) (by first | assumption | rfl) (by omega) (by omega) ?_
            refine go_iinc dX10_worked_157 rfl rfl ⟨by omega, by omega⟩ ?_
            refine go_goto (tgt := 4) dX10_worked_160 rfl ?_
            refine go_drop (ih (q + 1) _ _ (joinI v y2 x2 :: t2) (by omega) (by omega) (by rw [hE, hcd, show cdV w v = -v from if_neg (by omega), stE_bin (by omega) (by omega), show -(-v) = v by omega]) (by simp at htop ⊢; omega) (by omega) ?_ (fun r hr => (ua_ne hr).trans (hf r hr))) rfl
            rw [ud_s, show top + -1 - 1 = (t2.length : Nat) by omega]
            exact ⟨uf_same _ _ _, stk_uf hst.2.2 (by omega)⟩
          ·
            rw [hcd, show cdV w v = -33 by unfold cdV; rw [if_neg (by omega)]; omega] at hdp
            have hd1 := dp_not hdp
            obtain ⟨x, t2, rfl⟩ := one_of hd1
            have hl2 : ((x :: t2).length : Int) = t2.length + 1 := by simp
            have hx : μ1 109 (top - 1) = x := by rw [show top - 1 = (t2.length : Nat) by omega]; exact hst.1
            refine go_aload_n dX10_worked_100 rfl ?_
            refine go_getR dX10_worked_101 fl_X10_74 (by first | assumption | exact Nat.le_of_ble_eq_true rfl) (by first | assumption | rfl) rfl (by first | assumption | rfl) ?_
            refine go_iload_n dX10_worked_104 rfl ?_
            refine go_iconst dX10_worked_105 rfl ?_
            refine go_isub dX10_worked_106 ⟨by omega, by omega⟩ ?_
            refine go_aload_n dX10_worked_107 rfl ?_
            refine go_getR dX10_worked_108 fl_X10_74 (by first | assumption | exact Nat.le_of_ble_eq_true rfl) (by first | assumption | rfl) rfl (by first | assumption | rfl) ?_
            refine go_iload_n dX10_worked_111 rfl ?_
            refine go_iconst dX10_worked_112 rfl ?_
            refine go_isub dX10_worked_113 ⟨by omega, by omega⟩ ?_
            refine go_iaload dX10_worked_114 (by first | assumption | exact Nat.le_of_ble_eq_true rfl) (by first | assumption | rfl) (by omega) (by omega) ?_
            try simp (disch := omega) only [ud, ua_same, ua_ne, uf_same, uf_ne]
            rw [hx]
            first | refine go_bnz (tgt := 122) dX10_worked_115 rfl (fun h115 => ?_) (fun h115 => ?_) | refine go_if_ne (tgt := 122) dX10_worked_115 rfl (fun h115 => ?_) (fun h115 => ?_)
            ·
              refine go_iconst dX10_worked_122 rfl ?_
              refine go_iastore dX10_worked_123 (by first | assumption | exact Nat.le_of_ble_eq_true rfl) (by first | assumption | rfl) (by omega) (by omega) ?_
              refine go_goto (tgt := 157) dX10_worked_124 rfl ?_
              refine go_iinc dX10_worked_157 rfl rfl ⟨by omega, by omega⟩ ?_
              refine go_goto (tgt := 4) dX10_worked_160 rfl ?_
              refine go_drop (ih (q + 1) _ _ (0 :: t2) (by omega) (by omega) (by rw [hE, hcd, show cdV w v = -33 by unfold cdV; rw [if_neg (by omega)]; omega, stE_not, if_neg h115]) (by simp; omega) (by omega) ?_ (fun r hr => (ua_ne hr).trans (hf r hr))) rfl
              rw [ud_s, show top - 1 = (t2.length : Nat) by omega]
              exact ⟨uf_same _ _ _, stk_uf hst.2 (by omega)⟩
            ·
              refine go_iconst dX10_worked_118 rfl ?_
              refine go_goto (tgt := 123) dX10_worked_119 rfl ?_
              refine go_iastore dX10_worked_123 (by first | assumption | exact Nat.le_of_ble_eq_true rfl) (by first | assumption | rfl) (by omega) (by omega) ?_
              refine go_goto (tgt := 157) dX10_worked_124 rfl ?_
              refine go_iinc dX10_worked_157 rfl rfl ⟨by omega, by omega⟩ ?_
              refine go_goto (tgt := 4) dX10_worked_160 rfl ?_
              refine go_drop (ih (q + 1) _ _ (1 :: t2) (by omega) (by omega) (by rw [hE, hcd, show cdV w v = -33 by unfold cdV; rw [if_neg (by omega)]; omega, stE_not, if_pos h115]) (by simp; omega) (by omega) ?_ (fun r hr => (ua_ne hr).trans (hf r hr))) rfl
              rw [ud_s, show top - 1 = (t2.length : Nat) by omega]
              exact ⟨uf_same _ _ _, stk_uf hst.2 (by omega)⟩
        ·
          refine go_aload_n dX10_worked_64 rfl ?_
          refine go_getR dX10_worked_65 fl_X10_74 (by first | assumption | exact Nat.le_of_ble_eq_true rfl) (by first | assumption | rfl) rfl (by first | assumption | rfl) ?_
          refine go_iload_n dX10_worked_68 rfl ?_
          refine go_iload dX10_worked_69 rfl ?_
          first | refine go_bnz (tgt := 79) dX10_worked_71 rfl (fun h71 => ?_) (fun h71 => ?_) | refine go_if_ne (tgt := 79) dX10_worked_71 rfl (fun h71 => ?_) (fun h71 => ?_)
          ·
            refine go_aload_n dX10_worked_79 rfl ?_
            refine go_getR dX10_worked_80 fl_X10_71 (by first | assumption | exact Nat.le_of_ble_eq_true rfl) (by first | assumption | rfl) rfl (by first | assumption | rfl) ?_
            refine go_iload dX10_worked_83 rfl ?_
            refine go_iaload dX10_worked_85 (by first | assumption | exact Nat.le_of_ble_eq_true rfl) (by first | assumption | rfl) (by omega) (by omega) ?_
            try simp (disch := omega) only [ud, ua_same, ua_ne, uf_same, uf_ne]
            rw [hf 108 (by omega)]
            refine go_iastore dX10_worked_86 (by first | assumption | exact Nat.le_of_ble_eq_true rfl) (by first | assumption | rfl) (by omega) (by omega) ?_
            refine go_iinc dX10_worked_87 rfl rfl ⟨by omega, by omega⟩ ?_
            refine go_goto (tgt := 157) dX10_worked_90 rfl ?_
            refine go_iinc dX10_worked_157 rfl rfl ⟨by omega, by omega⟩ ?_
            refine go_goto (tgt := 4) dX10_worked_160 rfl ?_
            refine go_drop (ih (q + 1) _ _ (μ 108 v :: S) (by omega) (by omega) (by rw [hE, hcd, show cdV w v = -v from if_neg (by omega), stE_pc (by omega) (Or.inr (by omega))]; unfold pvN; rw [if_neg (by omega), show -(-v) = v by omega]) (by simp; omega) (by omega) ?_ (fun r hr => (ua_ne hr).trans (hf r hr))) rfl
            rw [ud_s, htop]
            exact ⟨uf_same _ _ _, stk_uf hst (by omega)⟩
          ·
            refine go_iload dX10_worked_74 rfl ?_
            refine go_goto (tgt := 86) dX10_worked_76 rfl ?_
            refine go_iastore dX10_worked_86 (by first | assumption | exact Nat.le_of_ble_eq_true rfl) (by first | assumption | rfl) (by omega) (by omega) ?_
            refine go_iinc dX10_worked_87 rfl rfl ⟨by omega, by omega⟩ ?_
            refine go_goto (tgt := 157) dX10_worked_90 rfl ?_
            refine go_iinc dX10_worked_157 rfl rfl ⟨by omega, by omega⟩ ?_
            refine go_goto (tgt := 4) dX10_worked_160 rfl ?_
            refine go_drop (ih (q + 1) _ _ (v :: S) (by omega) (by omega) (by rw [hE, hcd, show cdV w v = v from if_pos (by omega), stE_pc (by omega) (Or.inl (by omega))]; unfold pvN; rw [if_pos (by omega)]) (by simp; omega) (by omega) ?_ (fun r hr => (ua_ne hr).trans (hf r hr))) rfl
            rw [ud_s, htop]
            exact ⟨uf_same _ _ _, stk_uf hst (by omega)⟩
  refine go_iconst dX10_worked_0 rfl ?_
  refine go_istore_n dX10_worked_1 rfl ?_
  refine go_iconst dX10_worked_2 rfl ?_
  refine go_istore_n dX10_worked_3 rfl ?_
  exact go_drop (loop (μ 88 (122 + 200 * (i : Nat) + 2)).toNat 0 0 μ [] (by omega) (by omega) rfl rfl (by omega) trivial (fun _ _ => rfl)) rfl

set_option maxRecDepth 100000 in
set_option maxHeartbeats 4000000 in
theorem ct_X10_plainRisk {l : Launch} {D : va_G} {cA : Nat → ClassId} {μ : Mem} (hI : mdI (μ 88)) (c : Int) (hc0 : 0 ≤ c) (hc1 : c < 30) : CtN l D cA yX10_plainRisk cX10_plainRisk 4 (some .int) 4 [vr 87, vi c] μ (Pi (fun x μ' => x = prC (vm (μ 88)) 32 c ∧ ∀ q, q ≠ 108 → q ≠ 109 → μ' q = μ q)) := by
  refine Ct.of (own := RX10) (by decide +kernel) rfl (fun σ => Nat.le_of_ble_eq_true rfl) (fun hM hP ha => ?_)
  obtain ⟨m87, r88, s88, r89, s89, r90, s90, r91, s91, r92, s92, r93, s93, r94, s94, r95, s95, r96, s96, r97, s97, r98, s98, r99, s99, r100, s100, r101, s101, r102, s102, r103, s103, r104, s104, r105, s105, r106, s106, r107, s107, r108, s108, r109, s109, r110, s110, r111, s111, r112, s112⟩ := md_f
  obtain ⟨iK, iS, iL, iT, iTn, iD, iH, iF, iX⟩ := md_b hI
  have hT := md_t hI
  cases hlk : lastK (fun i => vm (μ 88) (4 + 2 * i) 0) 0 (μ 88 1).toNat with
  | none =>
    have hb2 := iS c hc0 hc1
    have hb3 := iL c hc0 hc1
    refine go_aload_n dX10_plainRisk_0 rfl ?_
    refine go_iload_n dX10_plainRisk_1 rfl ?_
    refine go_iconst dX10_plainRisk_2 rfl ?_
    refine go_vI (ci := 9) dX10_plainRisk_3 (ct_X10_of _ _ (by omega) (by omega) (by omega) (by omega)) ml_X10_92 mc_X10_of mv_X10_of rfl (by first | assumption | exact Nat.le_of_ble_eq_true rfl) (by first | assumption | rfl) rfl ⟨rfl, rfl⟩ ⟨Nat.le_refl _, Nat.le_refl _⟩ rfl rfl rfl (fun x3 μ3 hc3 => ?_)
    obtain ⟨rfl, hm3⟩ := hc3
    rw [hm3]
    try simp (disch := omega) only [ud, ua_same, ua_ne, uf_same, uf_ne]
    refine go_istore_n dX10_plainRisk_6 rfl ?_
    refine go_aload_n dX10_plainRisk_7 rfl ?_
    refine go_iconst dX10_plainRisk_8 rfl ?_
    refine go_vI (ci := 9) dX10_plainRisk_9 (ct_X10_counts hT 0) ml_X10_96 mc_X10_counts mv_X10_counts rfl (by first | assumption | exact Nat.le_of_ble_eq_true rfl) (by first | assumption | rfl) rfl ⟨rfl, rfl⟩ ⟨Nat.le_refl _, Nat.le_refl _⟩ rfl rfl rfl (fun x9 μ9 hc9 => ?_)
    obtain ⟨rfl, hm9⟩ := hc9
    rw [hm9, hlk]
    simp only [onM]
    refine go_istore_n dX10_plainRisk_12 rfl ?_
    refine go_iload_n dX10_plainRisk_13 rfl ?_
    refine go_if_ge (tgt := 49) dX10_plainRisk_14 rfl (fun h14 => ?_) (fun h14 => ?_)
    ·
      exact absurd h14 (by omega)
    ·
      refine go_iload_n dX10_plainRisk_17 rfl ?_
      refine go_bipush dX10_plainRisk_18 rfl (by decide) ?_
      refine go_icmp_ge (tgt := 27) dX10_plainRisk_20 rfl (fun h20 => ?_) (fun h20 => ?_)
      ·
        have h7 : 0 ≤ (μ 88 (8 + 3 * c + 1) - 29) * μ 88 2 := Int.mul_nonneg (by omega) iD.1
        have h8 : (μ 88 (8 + 3 * c + 1) - 29) * μ 88 2 ≤ 31 * 5 := Int.mul_le_mul (by omega) iD.2 iD.1 (by omega)
        refine go_iload_n dX10_plainRisk_27 rfl ?_
        refine go_bipush dX10_plainRisk_28 rfl (by decide) ?_
        refine go_isub dX10_plainRisk_30 ⟨by omega, by omega⟩ ?_
        refine go_aload_n dX10_plainRisk_31 rfl ?_
        refine go_getR dX10_plainRisk_32 fl_X10_7 (by first | assumption | exact Nat.le_of_ble_eq_true rfl) (by first | assumption | rfl) rfl (by first | assumption | rfl) ?_
        refine go_iconst dX10_plainRisk_35 rfl ?_
        refine go_iaload dX10_plainRisk_36 (by first | assumption | exact Nat.le_of_ble_eq_true rfl) (by first | assumption | rfl) (by omega) (by omega) ?_
        try simp (disch := omega) only [ud, ua_same, ua_ne, uf_same, uf_ne]
        refine go_imul dX10_plainRisk_37 ⟨by omega, by omega⟩ ?_
        refine go_aload_n dX10_plainRisk_38 rfl ?_
        refine go_iload_n dX10_plainRisk_39 rfl ?_
        refine go_iconst dX10_plainRisk_40 rfl ?_
        refine go_vI (ci := 9) dX10_plainRisk_41 (ct_X10_of _ _ (by omega) (by omega) (by omega) (by omega)) ml_X10_92 mc_X10_of mv_X10_of rfl (by first | assumption | exact Nat.le_of_ble_eq_true rfl) (by first | assumption | rfl) rfl ⟨rfl, rfl⟩ ⟨Nat.le_refl _, Nat.le_refl _⟩ rfl rfl rfl (fun x41 μ41 hc41 => ?_)
        obtain ⟨rfl, hm41⟩ := hc41
        rw [hm41]
        try simp (disch := omega) only [ud, ua_same, ua_ne, uf_same, uf_ne]
        refine go_bipush dX10_plainRisk_44 rfl (by decide) ?_
        refine go_idiv dX10_plainRisk_46 (by omega) (by omega) ?_
        refine go_iadd dX10_plainRisk_47 ⟨by omega, by omega⟩ ?_
        exact go_ri dX10_plainRisk_48 tyI ⟨Nat.le_refl _, Nat.le_refl _⟩ (⟨by unfold prC plainR; rw [lawOf_c, show (vm (μ 88) 32 13).toNat = (μ 88 1).toNat from rfl, hlk, vm_34 hc0 hc1, vm_35 hc0 hc1]; simp only [Option.map]; rw [if_neg (by omega)]; rfl, fun _ _ _ => rfl⟩)
      ·
        refine go_iconst dX10_plainRisk_23 rfl ?_
        refine go_goto (tgt := 48) dX10_plainRisk_24 rfl ?_
        exact go_ri dX10_plainRisk_48 tyI ⟨Nat.le_refl _, Nat.le_refl _⟩ (⟨by unfold prC plainR; rw [lawOf_c, show (vm (μ 88) 32 13).toNat = (μ 88 1).toNat from rfl, hlk, vm_34 hc0 hc1, vm_35 hc0 hc1]; simp only [Option.map]; rw [if_pos (by omega)], fun _ _ _ => rfl⟩)
  | some i =>
    have hin := (lastK_lt hlk).1
    have hky := (lastK_lt hlk).2
    have htx := tx_f hT hin
    rw [hky] at htx
    have hb2 := iS c hc0 hc1
    have hb3 := iL c hc0 hc1
    refine go_aload_n dX10_plainRisk_0 rfl ?_
    refine go_iload_n dX10_plainRisk_1 rfl ?_
    refine go_iconst dX10_plainRisk_2 rfl ?_
    refine go_vI (ci := 9) dX10_plainRisk_3 (ct_X10_of _ _ (by omega) (by omega) (by omega) (by omega)) ml_X10_92 mc_X10_of mv_X10_of rfl (by first | assumption | exact Nat.le_of_ble_eq_true rfl) (by first | assumption | rfl) rfl ⟨rfl, rfl⟩ ⟨Nat.le_refl _, Nat.le_refl _⟩ rfl rfl rfl (fun x3 μ3 hc3 => ?_)
    obtain ⟨rfl, hm3⟩ := hc3
    rw [hm3]
    try simp (disch := omega) only [ud, ua_same, ua_ne, uf_same, uf_ne]
    refine go_istore_n dX10_plainRisk_6 rfl ?_
    refine go_aload_n dX10_plainRisk_7 rfl ?_
    refine go_iconst dX10_plainRisk_8 rfl ?_
    refine go_vI (ci := 9) dX10_plainRisk_9 (ct_X10_counts hT 0) ml_X10_96 mc_X10_counts mv_X10_counts rfl (by first | assumption | exact Nat.le_of_ble_eq_true rfl) (by first | assumption | rfl) rfl ⟨rfl, rfl⟩ ⟨Nat.le_refl _, Nat.le_refl _⟩ rfl rfl rfl (fun x9 μ9 hc9 => ?_)
    obtain ⟨rfl, hm9⟩ := hc9
    rw [hm9, hlk]
    simp only [onM]
    refine go_istore_n dX10_plainRisk_12 rfl ?_
    refine go_iload_n dX10_plainRisk_13 rfl ?_
    refine go_if_ge (tgt := 49) dX10_plainRisk_14 rfl (fun h14 => ?_) (fun h14 => ?_)
    ·
      refine go_aload_n dX10_plainRisk_49 rfl ?_
      refine go_getR dX10_plainRisk_50 fl_X10_71 (by first | assumption | exact Nat.le_of_ble_eq_true rfl) (by first | assumption | rfl) rfl (by first | assumption | rfl) ?_
      refine go_bipush dX10_plainRisk_53 rfl (by decide) ?_
      refine go_iload_n dX10_plainRisk_55 rfl ?_
      refine go_iastore dX10_plainRisk_56 (by first | assumption | exact Nat.le_of_ble_eq_true rfl) (by first | assumption | rfl) (by omega) (by omega) ?_
      refine go_aload_n dX10_plainRisk_57 rfl ?_
      refine go_getR dX10_plainRisk_58 fl_X10_71 (by first | assumption | exact Nat.le_of_ble_eq_true rfl) (by first | assumption | rfl) rfl (by first | assumption | rfl) ?_
      refine go_bipush dX10_plainRisk_61 rfl (by decide) ?_
      refine go_aload_n dX10_plainRisk_63 rfl ?_
      refine go_iload_n dX10_plainRisk_64 rfl ?_
      refine go_iconst dX10_plainRisk_65 rfl ?_
      refine go_vI (ci := 9) dX10_plainRisk_66 (ct_X10_of _ _ (by omega) (by omega) (by omega) (by omega)) ml_X10_92 mc_X10_of mv_X10_of rfl (by first | assumption | exact Nat.le_of_ble_eq_true rfl) (by first | assumption | rfl) rfl ⟨rfl, rfl⟩ ⟨Nat.le_refl _, Nat.le_refl _⟩ rfl rfl rfl (fun x66 μ66 hc66 => ?_)
      obtain ⟨rfl, hm66⟩ := hc66
      rw [hm66]
      try simp (disch := omega) only [ud, ua_same, ua_ne, uf_same, uf_ne]
      refine go_iastore dX10_plainRisk_69 (by first | assumption | exact Nat.le_of_ble_eq_true rfl) (by first | assumption | rfl) (by omega) (by omega) ?_
      refine go_aload_n dX10_plainRisk_70 rfl ?_
      refine go_getR dX10_plainRisk_71 fl_X10_71 (by first | assumption | exact Nat.le_of_ble_eq_true rfl) (by first | assumption | rfl) rfl (by first | assumption | rfl) ?_
      refine go_bipush dX10_plainRisk_74 rfl (by decide) ?_
      refine go_aload_n dX10_plainRisk_76 rfl ?_
      refine go_getR dX10_plainRisk_77 fl_X10_7 (by first | assumption | exact Nat.le_of_ble_eq_true rfl) (by first | assumption | rfl) rfl (by first | assumption | rfl) ?_
      refine go_iconst dX10_plainRisk_80 rfl ?_
      refine go_iaload dX10_plainRisk_81 (by first | assumption | exact Nat.le_of_ble_eq_true rfl) (by first | assumption | rfl) (by omega) (by omega) ?_
      try simp (disch := omega) only [ud, ua_same, ua_ne, uf_same, uf_ne]
      refine go_iastore dX10_plainRisk_82 (by first | assumption | exact Nat.le_of_ble_eq_true rfl) (by first | assumption | rfl) (by omega) (by omega) ?_
      refine go_aload_n dX10_plainRisk_83 rfl ?_
      refine go_iload_n dX10_plainRisk_84 rfl ?_
      refine go_vI (ci := 9) dX10_plainRisk_85 (ct_X10_worked (by simp (disch := omega) only [ud, ua_same, ua_ne]; exact hT) i (by simp (disch := omega) only [ud, ua_same, ua_ne]; exact hin)) ml_X10_100 mc_X10_worked mv_X10_worked rfl (by first | assumption | exact Nat.le_of_ble_eq_true rfl) (by first | assumption | rfl) rfl ⟨rfl, rfl⟩ ⟨Nat.le_refl _, Nat.le_refl _⟩ rfl rfl rfl (fun x85 μ85 hc85 => ?_)
      simp (disch := omega) only [ud, ua_same, ua_ne] at hc85
      obtain ⟨rfl, hf85⟩ := hc85
      refine go_sipush dX10_plainRisk_88 rfl (by decide) ?_
      refine go_sI dX10_plainRisk_91 (ct_X10_within _ _ (by omega)) ml_X10_103 mc_X10_within ms_X10_within ⟨rfl, rfl⟩ ⟨Nat.le_refl _, Nat.le_refl _⟩ rfl rfl rfl (fun x91 μ91 hc91 => ?_)
      obtain ⟨rfl, hm91⟩ := hc91
      rw [hm91]
      exact go_ri dX10_plainRisk_94 tyI ⟨Nat.le_refl _, Nat.le_refl _⟩ (⟨by unfold prC plainR; rw [lawOf_c, show (vm (μ 88) 32 13).toNat = (μ 88 1).toNat from rfl, hlk, vm_34 hc0 hc1, vm_35 hc0 hc1]; show _ = cl (evL (pvW (μ 88 (8 + 3 * c + 1)) (μ 88 (8 + 3 * c + 2)) (μ 88 2)) (cdL (μ 88) i)) 0 999; rw [← evL_cg (fun cd hcd hpd => pv_0 (nm := uf (uf (uf (μ 108) 115 (μ 88 (8 + 3 * c + 1))) 108 (μ 88 (8 + 3 * c + 2))) 100 (μ 88 2)) (htx.2.2 cd hcd) hpd (by simp (disch := omega) only [uf_same, uf_ne]) (by simp (disch := omega) only [uf_same, uf_ne]) (by simp (disch := omega) only [uf_same, uf_ne]))]; rfl, fun q a b => by rw [hf85 q b]; simp (disch := omega) only [ud, ua_ne]⟩)
    ·
      exact absurd h14 (by omega)


set_option maxRecDepth 100000 in
set_option maxHeartbeats 4000000 in
theorem ct_X10_above {l : Launch} {D : va_G} {cA : Nat → ClassId} {μ : Mem} (hI : mdI (μ 88)) (c : Int) (hc0 : 0 ≤ c) (hc1 : c < 30) : CtN l D cA yX10_above cX10_above 5 (some .int) 5 [vr 87, vi c] μ (Pi (fun x μ' => x = abv (prC (vm (μ 88)) 32) c ∧ ∀ q, q ≠ 108 → q ≠ 109 → μ' q = μ q)) := by
  refine Ct.of (own := RX10) (by decide +kernel) rfl (fun σ => Nat.le_of_ble_eq_true rfl) (fun hM hP ha => ?_)
  obtain ⟨m87, r88, s88, r89, s89, r90, s90, r91, s91, r92, s92, r93, s93, r94, s94, r95, s95, r96, s96, r97, s97, r98, s98, r99, s99, r100, s100, r101, s101, r102, s102, r103, s103, r104, s104, r105, s105, r106, s106, r107, s107, r108, s108, r109, s109, r110, s110, r111, s111, r112, s112⟩ := md_f
  have loop : ∀ (n : Nat) (h acc : Int) (μ1 : Mem), 30 ≤ h + 6 * (n : Nat) → 6 ≤ h → 0 ≤ acc → abv (prC (vm (μ 88)) 32) c = max acc (abvN (prC (vm (μ 88)) 32) n (h - 6)) → (∀ q, q ≠ 108 → q ≠ 109 → μ1 q = μ q) → Go l D cA none RX10 cX10_above 5 (some .int) (5, 0, 0) (QN (Pi (fun x μ' => x = abv (prC (vm (μ 88)) 32) c ∧ ∀ q, q ≠ 108 → q ≠ 109 → μ' q = μ q))) 113 ρ0 0 0 7 [(0, vr 87), (1, vi c), (2, vi acc), (3, vi h)] [] μ1 := by
    intro n
    induction n with
    | zero =>
      intro h acc μ1 hn h6 ha0 hres hf
      refine go_iload_n dX10_above_7 rfl ?_
      refine go_bipush dX10_above_8 rfl (by decide) ?_
      refine go_icmp_ge (tgt := 39) dX10_above_10 rfl (fun h10 => ?_) (fun h10 => ?_)
      ·
        refine go_iload_n dX10_above_39 rfl ?_
        exact go_ri dX10_above_40 tyI ⟨Nat.le_refl _, Nat.le_refl _⟩ (⟨by rw [hres]; unfold abvN; omega, hf⟩)
      ·
        exact absurd h10 (by omega)
    | succ n ih =>
      intro h acc μ1 hn h6 ha0 hres hf
      have e88 : μ1 88 = μ 88 := hf _ (by omega) (by omega)
      refine go_iload_n dX10_above_7 rfl ?_
      refine go_bipush dX10_above_8 rfl (by decide) ?_
      refine go_icmp_ge (tgt := 39) dX10_above_10 rfl (fun h10 => ?_) (fun h10 => ?_)
      ·
        refine go_iload_n dX10_above_39 rfl ?_
        exact go_ri dX10_above_40 tyI ⟨Nat.le_refl _, Nat.le_refl _⟩ (⟨by rw [hres, abvN_s, if_neg (by omega)]; omega, hf⟩)
      ·
        refine go_aload_n dX10_above_13 rfl ?_
        refine go_iload_n dX10_above_14 rfl ?_
        refine go_vI (ci := 9) dX10_above_15 (ct_X10_plainRisk (by rw [e88]; exact hI) _ (by omega) (by omega)) ml_X10_106 mc_X10_plainRisk mv_X10_plainRisk rfl (by first | assumption | exact Nat.le_of_ble_eq_true rfl) (by first | assumption | rfl) rfl ⟨rfl, rfl⟩ ⟨Nat.le_refl _, Nat.le_refl _⟩ rfl rfl rfl (fun x15 μ15 hc15 => ?_)
        rw [e88] at hc15
        obtain ⟨rfl, hf15⟩ := hc15
        refine go_istore dX10_above_18 rfl ?_
        refine go_iload dX10_above_20 rfl ?_
        refine go_iload_n dX10_above_22 rfl ?_
        refine go_icmp_le (tgt := 31) dX10_above_23 rfl (fun h23 => ?_) (fun h23 => ?_)
        ·
          refine go_iload_n dX10_above_31 rfl ?_
          refine go_istore_n dX10_above_32 rfl ?_
          refine go_iinc dX10_above_33 rfl rfl ⟨by omega, by omega⟩ ?_
          refine go_goto (tgt := 7) dX10_above_36 rfl ?_
          refine go_drop (ih _ _ μ15 (by omega) (by omega) (by omega) ?_ (fun q a b => (hf15 q a b).trans (hf q a b))) rfl
          rw [hres, abvN_s, if_pos (by omega), show h - 6 + 6 = h by omega, show h + 6 - 6 = h by omega]
          omega
        ·
          refine go_iload dX10_above_26 rfl ?_
          refine go_goto (tgt := 32) dX10_above_28 rfl ?_
          refine go_istore_n dX10_above_32 rfl ?_
          refine go_iinc dX10_above_33 rfl rfl ⟨by omega, by omega⟩ ?_
          refine go_goto (tgt := 7) dX10_above_36 rfl ?_
          refine go_drop (ih _ _ μ15 (by omega) (by omega) (by omega) ?_ (fun q a b => (hf15 q a b).trans (hf q a b))) rfl
          rw [hres, abvN_s, if_pos (by omega), show h - 6 + 6 = h by omega, show h + 6 - 6 = h by omega]
          omega
  refine go_iconst dX10_above_0 rfl ?_
  refine go_istore_n dX10_above_1 rfl ?_
  refine go_iload_n dX10_above_2 rfl ?_
  refine go_bipush dX10_above_3 rfl (by decide) ?_
  refine go_iadd dX10_above_5 ⟨by omega, by omega⟩ ?_
  refine go_istore_n dX10_above_6 rfl ?_
  refine go_drop (loop 5 _ 0 μ (by omega) (by omega) (by omega) ?_ (fun _ _ _ => rfl)) rfl
  rw [show c + 6 - 6 = c by omega]
  show _ = max 0 (abv (prC (vm (μ 88)) 32) c)
  have := abvN_b (prC_b hI.1) 5 c hc0
  unfold abv
  omega

set_option maxRecDepth 100000 in
set_option maxHeartbeats 4000000 in
theorem ct_X10_risk {l : Launch} {D : va_G} {cA : Nat → ClassId} {μ : Mem} (hI : mdI (μ 88)) (c : Int) (hc0 : 0 ≤ c) (hc1 : c < 30) : CtN l D cA yX10_risk cX10_risk 3 (some .int) 6 [vr 87, vi c] μ (Pi (fun x μ' => x = rkC (vm (μ 88)) 32 c ∧ ∀ q, q ≠ 108 → q ≠ 109 → μ' q = μ q)) := by
  refine Ct.of (own := RX10) (by decide +kernel) rfl (fun σ => Nat.le_of_ble_eq_true rfl) (fun hM hP ha => ?_)
  obtain ⟨m87, r88, s88, r89, s89, r90, s90, r91, s91, r92, s92, r93, s93, r94, s94, r95, s95, r96, s96, r97, s97, r98, s98, r99, s99, r100, s100, r101, s101, r102, s102, r103, s103, r104, s104, r105, s105, r106, s106, r107, s107, r108, s108, r109, s109, r110, s110, r111, s111, r112, s112⟩ := md_f
  obtain ⟨iK, iS, iL, iT, iTn, iD, iH, iF, iX⟩ := md_b hI
  have b1 := prC_b hI.1 c hc0 hc1
  have b2 := abvN_b (prC_b hI.1) 5 c hc0
  have hk := iK c hc0 hc1
  have hRk : rkC (vm (μ 88)) 32 c = kRisk (μ 88 (8 + 3 * c + 0)) (prC (vm (μ 88)) 32 c) (abv (prC (vm (μ 88)) 32) c) (sunV (μ 88 3)) := by unfold rkC riskV; rw [vm_33 hc0 hc1]; rfl
  have b3 : 0 ≤ abv (prC (vm (μ 88)) 32) c ∧ abv (prC (vm (μ 88)) 32) c ≤ 999 := b2
  have b4 : 0 ≤ sunV (μ 88 3) ∧ sunV (μ 88 3) ≤ 23 := by unfold sunV; omega
  refine go_aload_n dX10_risk_0 rfl ?_
  refine go_iload_n dX10_risk_1 rfl ?_
  refine go_vI (ci := 9) dX10_risk_2 (ct_X10_plainRisk hI _ hc0 hc1) ml_X10_106 mc_X10_plainRisk mv_X10_plainRisk rfl (by first | assumption | exact Nat.le_of_ble_eq_true rfl) (by first | assumption | rfl) rfl ⟨rfl, rfl⟩ ⟨Nat.le_refl _, Nat.le_refl _⟩ rfl rfl rfl (fun x2 μ2 hc2 => ?_)
  obtain ⟨rfl, hf2⟩ := hc2
  have e88 : μ2 88 = μ 88 := hf2 _ (by omega) (by omega)
  refine go_istore_n dX10_risk_5 rfl ?_
  refine go_aload_n dX10_risk_6 rfl ?_
  refine go_iload_n dX10_risk_7 rfl ?_
  refine go_iconst dX10_risk_8 rfl ?_
  refine go_vI (ci := 9) dX10_risk_9 (ct_X10_of _ _ (by omega) (by omega) (by omega) (by omega)) ml_X10_92 mc_X10_of mv_X10_of rfl (by first | assumption | exact Nat.le_of_ble_eq_true rfl) (by first | assumption | rfl) rfl ⟨rfl, rfl⟩ ⟨Nat.le_refl _, Nat.le_refl _⟩ rfl rfl rfl (fun x9 μ9 hc9 => ?_)
  rw [e88] at hc9
  obtain ⟨rfl, hm9⟩ := hc9
  rw [hm9]
  refine go_case (1) (fun h12_1 => ?_) (fun h12_1 => ?_)
  ·
    refine go_tabIn (tgt := 48) dX10_risk_12 (by rw [h12_1]; decide) (by rw [h12_1]; decide) (by rw [h12_1]; try rfl) rfl ?_
    refine go_iload_n dX10_risk_48 rfl ?_
    refine go_aload_n dX10_risk_49 rfl ?_
    refine go_iload_n dX10_risk_50 rfl ?_
    refine go_vI (ci := 9) dX10_risk_51 (ct_X10_above (by rw [e88]; exact hI) _ hc0 hc1) ml_X10_109 mc_X10_above mv_X10_above rfl (by first | assumption | exact Nat.le_of_ble_eq_true rfl) (by first | assumption | rfl) rfl ⟨rfl, rfl⟩ ⟨Nat.le_refl _, Nat.le_refl _⟩ rfl rfl rfl (fun x51 μ51 hc51 => ?_)
    rw [e88] at hc51
    obtain ⟨rfl, hf51⟩ := hc51
    refine go_iconst dX10_risk_54 rfl ?_
    refine go_idiv dX10_risk_55 (by omega) (by omega) ?_
    refine go_iadd dX10_risk_56 ⟨by omega, by omega⟩ ?_
    exact go_ri dX10_risk_57 tyI ⟨Nat.le_refl _, Nat.le_refl _⟩ (⟨by rw [hRk]; unfold kRisk; (repeat (first | rw [if_pos (by omega)] | rw [if_neg (by omega)])), fun q a b => (hf51 q a b).trans (hf2 q a b)⟩)
  refine go_case (2) (fun h12_2 => ?_) (fun h12_2 => ?_)
  ·
    refine go_tabIn (tgt := 58) dX10_risk_12 (by rw [h12_2]; decide) (by rw [h12_2]; decide) (by rw [h12_2]; try rfl) rfl ?_
    refine go_iload_n dX10_risk_58 rfl ?_
    refine go_iconst dX10_risk_59 rfl ?_
    refine go_idiv dX10_risk_60 (by omega) (by omega) ?_
    exact go_ri dX10_risk_61 tyI ⟨Nat.le_refl _, Nat.le_refl _⟩ (⟨by rw [hRk]; unfold kRisk; (repeat (first | rw [if_pos (by omega)] | rw [if_neg (by omega)])), hf2⟩)
  refine go_case (3) (fun h12_3 => ?_) (fun h12_3 => ?_)
  ·
    refine go_tabIn (tgt := 62) dX10_risk_12 (by rw [h12_3]; decide) (by rw [h12_3]; decide) (by rw [h12_3]; try rfl) rfl ?_
    refine go_iconst dX10_risk_62 rfl ?_
    refine go_iload_n dX10_risk_63 rfl ?_
    refine go_aload_n dX10_risk_64 rfl ?_
    refine go_iload_n dX10_risk_65 rfl ?_
    refine go_vI (ci := 9) dX10_risk_66 (ct_X10_above (by rw [e88]; exact hI) _ hc0 hc1) ml_X10_109 mc_X10_above mv_X10_above rfl (by first | assumption | exact Nat.le_of_ble_eq_true rfl) (by first | assumption | rfl) rfl ⟨rfl, rfl⟩ ⟨Nat.le_refl _, Nat.le_refl _⟩ rfl rfl rfl (fun x66 μ66 hc66 => ?_)
    rw [e88] at hc66
    obtain ⟨rfl, hf66⟩ := hc66
    refine go_iconst dX10_risk_69 rfl ?_
    refine go_idiv dX10_risk_70 (by omega) (by omega) ?_
    refine go_iadd dX10_risk_71 ⟨by omega, by omega⟩ ?_
    refine go_imul dX10_risk_72 ⟨by omega, by omega⟩ ?_
    exact go_ri dX10_risk_73 tyI ⟨Nat.le_refl _, Nat.le_refl _⟩ (⟨by rw [hRk]; unfold kRisk; (repeat (first | rw [if_pos (by omega)] | rw [if_neg (by omega)])), fun q a b => (hf66 q a b).trans (hf2 q a b)⟩)
  refine go_case (4) (fun h12_4 => ?_) (fun h12_4 => ?_)
  ·
    refine go_tabIn (tgt := 74) dX10_risk_12 (by rw [h12_4]; decide) (by rw [h12_4]; decide) (by rw [h12_4]; try rfl) rfl ?_
    refine go_iload_n dX10_risk_74 rfl ?_
    refine go_iconst dX10_risk_75 rfl ?_
    refine go_idiv dX10_risk_76 (by omega) (by omega) ?_
    refine go_aload_n dX10_risk_77 rfl ?_
    refine go_vI (ci := 9) dX10_risk_78 (ct_X10_sun (by rw [e88]; exact iH.1) (by rw [e88]; exact iH.2)) ml_X10_112 mc_X10_sun mv_X10_sun rfl (by first | assumption | exact Nat.le_of_ble_eq_true rfl) (by first | assumption | rfl) rfl ⟨rfl, rfl⟩ ⟨Nat.le_refl _, Nat.le_refl _⟩ rfl rfl rfl (fun x78 μ78 hc78 => ?_)
    rw [e88] at hc78
    obtain ⟨rfl, hm78⟩ := hc78
    rw [hm78]
    refine go_iadd dX10_risk_81 ⟨by omega, by omega⟩ ?_
    exact go_ri dX10_risk_82 tyI ⟨Nat.le_refl _, Nat.le_refl _⟩ (⟨by rw [hRk]; unfold kRisk; (repeat (first | rw [if_pos (by omega)] | rw [if_neg (by omega)])), hf2⟩)
  refine go_case (5) (fun h12_5 => ?_) (fun h12_5 => ?_)
  ·
    refine go_tabIn (tgt := 83) dX10_risk_12 (by rw [h12_5]; decide) (by rw [h12_5]; decide) (by rw [h12_5]; try rfl) rfl ?_
    refine go_iload_n dX10_risk_83 rfl ?_
    refine go_iconst dX10_risk_84 rfl ?_
    refine go_idiv dX10_risk_85 (by omega) (by omega) ?_
    exact go_ri dX10_risk_86 tyI ⟨Nat.le_refl _, Nat.le_refl _⟩ (⟨by rw [hRk]; unfold kRisk; (repeat (first | rw [if_pos (by omega)] | rw [if_neg (by omega)])), hf2⟩)
  refine go_tabOut (tgt := 87) dX10_risk_12 (by omega) rfl ?_
  refine go_iload_n dX10_risk_87 rfl ?_
  exact go_ri dX10_risk_88 tyI ⟨Nat.le_refl _, Nat.le_refl _⟩ (⟨by rw [hRk]; unfold kRisk; (repeat (first | rw [if_pos (by omega)] | rw [if_neg (by omega)])), hf2⟩)

set_option maxRecDepth 100000 in
set_option maxHeartbeats 4000000 in
theorem ct_X10_holds {l : Launch} {D : va_G} {cA : Nat → ClassId} {μ : Mem} (hT : tI (μ 88)) (c : Int) (hc0 : 0 ≤ c) (hc1 : c < 30) (iS : ∀ c, 0 ≤ c → c < 30 → 0 ≤ μ 88 (8 + 3 * c + 1) ∧ μ 88 (8 + 3 * c + 1) ≤ 60) (iH : 0 ≤ μ 88 3 ∧ μ 88 3 ≤ 23) : CtN l D cA yX10_holds cX10_holds 5 (some .int) 4 [vr 87, vi c] μ (Pi (fun x μ' => x = kHold (vm (μ 88) 33 c) (plainH (LM (vm (μ 88)) 32) (vm (μ 88) 34 c) (c / 6)) (sunV (μ 88 3)) ∧ ∀ q, q ≠ 108 → q ≠ 109 → μ' q = μ q)) := by
  refine Ct.of (own := RX10) (by decide +kernel) rfl (fun σ => Nat.le_of_ble_eq_true rfl) (fun hM hP ha => ?_)
  obtain ⟨m87, r88, s88, r89, s89, r90, s90, r91, s91, r92, s92, r93, s93, r94, s94, r95, s95, r96, s96, r97, s97, r98, s98, r99, s99, r100, s100, r101, s101, r102, s102, r103, s103, r104, s104, r105, s105, r106, s106, r107, s107, r108, s108, r109, s109, r110, s110, r111, s111, r112, s112⟩ := md_f
  cases hlk : lastK (fun i => vm (μ 88) (4 + 2 * i) 0) 1 (μ 88 1).toNat with
  | none =>
    have hb2 := iS c hc0 hc1
    have b4 : 0 ≤ sunV (μ 88 3) ∧ sunV (μ 88 3) ≤ 23 := by unfold sunV; omega
    refine go_bipush dX10_holds_0 rfl (by decide) ?_
    refine go_aload_n dX10_holds_2 rfl ?_
    refine go_iload_n dX10_holds_3 rfl ?_
    refine go_iconst dX10_holds_4 rfl ?_
    refine go_vI (ci := 9) dX10_holds_5 (ct_X10_of _ _ (by omega) (by omega) (by omega) (by omega)) ml_X10_92 mc_X10_of mv_X10_of rfl (by first | assumption | exact Nat.le_of_ble_eq_true rfl) (by first | assumption | rfl) rfl ⟨rfl, rfl⟩ ⟨Nat.le_refl _, Nat.le_refl _⟩ rfl rfl rfl (fun x5 μ5 hc5 => ?_)
    obtain ⟨rfl, hm5⟩ := hc5
    rw [hm5]
    try simp (disch := omega) only [ud, ua_same, ua_ne, uf_same, uf_ne]
    refine go_isub dX10_holds_8 ⟨by omega, by omega⟩ ?_
    refine go_istore_n dX10_holds_9 rfl ?_
    refine go_aload_n dX10_holds_10 rfl ?_
    refine go_iconst dX10_holds_11 rfl ?_
    refine go_vI (ci := 9) dX10_holds_12 (ct_X10_counts hT 1) ml_X10_96 mc_X10_counts mv_X10_counts rfl (by first | assumption | exact Nat.le_of_ble_eq_true rfl) (by first | assumption | rfl) rfl ⟨rfl, rfl⟩ ⟨Nat.le_refl _, Nat.le_refl _⟩ rfl rfl rfl (fun x12 μ12 hc12 => ?_)
    obtain ⟨rfl, hm12⟩ := hc12
    rw [hm12, hlk]
    simp only [onM]
    refine go_istore_n dX10_holds_15 rfl ?_
    refine go_iload_n dX10_holds_16 rfl ?_
    refine go_if_lt (tgt := 55) dX10_holds_17 rfl (fun h17 => ?_) (fun h17 => ?_)
    ·
      have hph : plainH (LM (vm (μ 88)) 32) (vm (μ 88) 34 c) (c / 6) = 70 - μ 88 (8 + 3 * c + 1) := by unfold plainH; rw [lawOf_c, show (vm (μ 88) 32 13).toNat = (μ 88 1).toNat from rfl, hlk, vm_34 hc0 hc1]; rfl
      refine go_aload_n dX10_holds_55 rfl ?_
      refine go_iload_n dX10_holds_56 rfl ?_
      refine go_iconst dX10_holds_57 rfl ?_
      refine go_vI (ci := 9) dX10_holds_58 (ct_X10_of _ _ (by omega) (by omega) (by omega) (by omega)) ml_X10_92 mc_X10_of mv_X10_of rfl (by first | assumption | exact Nat.le_of_ble_eq_true rfl) (by first | assumption | rfl) rfl ⟨rfl, rfl⟩ ⟨Nat.le_refl _, Nat.le_refl _⟩ rfl rfl rfl (fun x58 μ58 hc58 => ?_)
      obtain ⟨rfl, hm58⟩ := hc58
      rw [hm58]
      try simp (disch := omega) only [ud, ua_same, ua_ne, uf_same, uf_ne]
      refine go_istore dX10_holds_61 rfl ?_
      refine go_iload dX10_holds_63 rfl ?_
      refine go_iconst dX10_holds_65 rfl ?_
      refine go_icmp_ne (tgt := 75) dX10_holds_66 rfl (fun h66 => ?_) (fun h66 => ?_)
      ·
        refine go_iload dX10_holds_75 rfl ?_
        refine go_iconst dX10_holds_77 rfl ?_
        refine go_icmp_ne (tgt := 92) dX10_holds_78 rfl (fun h78 => ?_) (fun h78 => ?_)
        ·
          refine go_iload dX10_holds_92 rfl ?_
          refine go_iconst dX10_holds_94 rfl ?_
          refine go_icmp_ne (tgt := 105) dX10_holds_95 rfl (fun h95 => ?_) (fun h95 => ?_)
          ·
            refine go_iload_n dX10_holds_105 rfl ?_
            exact go_ri dX10_holds_106 tyI ⟨Nat.le_refl _, Nat.le_refl _⟩ (⟨by rw [vm_33 hc0 hc1, hph]; unfold kHold; (repeat (first | rw [if_pos (by omega)] | rw [if_neg (by omega)])), fun _ _ _ => rfl⟩)
          ·
            refine go_iload_n dX10_holds_98 rfl ?_
            refine go_bipush dX10_holds_99 rfl (by decide) ?_
            refine go_iadd dX10_holds_101 ⟨by omega, by omega⟩ ?_
            refine go_goto (tgt := 106) dX10_holds_102 rfl ?_
            exact go_ri dX10_holds_106 tyI ⟨Nat.le_refl _, Nat.le_refl _⟩ (⟨by rw [vm_33 hc0 hc1, hph]; unfold kHold; (repeat (first | rw [if_pos (by omega)] | rw [if_neg (by omega)])), fun _ _ _ => rfl⟩)
        ·
          refine go_iload_n dX10_holds_81 rfl ?_
          refine go_iconst dX10_holds_82 rfl ?_
          refine go_iadd dX10_holds_83 ⟨by omega, by omega⟩ ?_
          refine go_aload_n dX10_holds_84 rfl ?_
          refine go_vI (ci := 9) dX10_holds_85 (ct_X10_sun (by exact iH.1) (by exact iH.2)) ml_X10_112 mc_X10_sun mv_X10_sun rfl (by first | assumption | exact Nat.le_of_ble_eq_true rfl) (by first | assumption | rfl) rfl ⟨rfl, rfl⟩ ⟨Nat.le_refl _, Nat.le_refl _⟩ rfl rfl rfl (fun x85 μ85 hc85 => ?_)
          skip
          obtain ⟨rfl, hm85⟩ := hc85
          rw [hm85]
          refine go_isub dX10_holds_88 ⟨by omega, by omega⟩ ?_
          refine go_goto (tgt := 106) dX10_holds_89 rfl ?_
          exact go_ri dX10_holds_106 tyI ⟨Nat.le_refl _, Nat.le_refl _⟩ (⟨by rw [vm_33 hc0 hc1, hph]; unfold kHold; (repeat (first | rw [if_pos (by omega)] | rw [if_neg (by omega)])), fun _ _ _ => rfl⟩)
      ·
        refine go_iload_n dX10_holds_69 rfl ?_
        refine go_iconst dX10_holds_70 rfl ?_
        refine go_iadd dX10_holds_71 ⟨by omega, by omega⟩ ?_
        refine go_goto (tgt := 106) dX10_holds_72 rfl ?_
        exact go_ri dX10_holds_106 tyI ⟨Nat.le_refl _, Nat.le_refl _⟩ (⟨by rw [vm_33 hc0 hc1, hph]; unfold kHold; (repeat (first | rw [if_pos (by omega)] | rw [if_neg (by omega)])), fun _ _ _ => rfl⟩)
    ·
      exact absurd h17 (by omega)
  | some i =>
    have hin := (lastK_lt hlk).1
    have hky := (lastK_lt hlk).2
    have htx := tx_f hT hin
    rw [hky] at htx
    have hb2 := iS c hc0 hc1
    have b4 : 0 ≤ sunV (μ 88 3) ∧ sunV (μ 88 3) ≤ 23 := by unfold sunV; omega
    refine go_bipush dX10_holds_0 rfl (by decide) ?_
    refine go_aload_n dX10_holds_2 rfl ?_
    refine go_iload_n dX10_holds_3 rfl ?_
    refine go_iconst dX10_holds_4 rfl ?_
    refine go_vI (ci := 9) dX10_holds_5 (ct_X10_of _ _ (by omega) (by omega) (by omega) (by omega)) ml_X10_92 mc_X10_of mv_X10_of rfl (by first | assumption | exact Nat.le_of_ble_eq_true rfl) (by first | assumption | rfl) rfl ⟨rfl, rfl⟩ ⟨Nat.le_refl _, Nat.le_refl _⟩ rfl rfl rfl (fun x5 μ5 hc5 => ?_)
    obtain ⟨rfl, hm5⟩ := hc5
    rw [hm5]
    try simp (disch := omega) only [ud, ua_same, ua_ne, uf_same, uf_ne]
    refine go_isub dX10_holds_8 ⟨by omega, by omega⟩ ?_
    refine go_istore_n dX10_holds_9 rfl ?_
    refine go_aload_n dX10_holds_10 rfl ?_
    refine go_iconst dX10_holds_11 rfl ?_
    refine go_vI (ci := 9) dX10_holds_12 (ct_X10_counts hT 1) ml_X10_96 mc_X10_counts mv_X10_counts rfl (by first | assumption | exact Nat.le_of_ble_eq_true rfl) (by first | assumption | rfl) rfl ⟨rfl, rfl⟩ ⟨Nat.le_refl _, Nat.le_refl _⟩ rfl rfl rfl (fun x12 μ12 hc12 => ?_)
    obtain ⟨rfl, hm12⟩ := hc12
    rw [hm12, hlk]
    simp only [onM]
    refine go_istore_n dX10_holds_15 rfl ?_
    refine go_iload_n dX10_holds_16 rfl ?_
    refine go_if_lt (tgt := 55) dX10_holds_17 rfl (fun h17 => ?_) (fun h17 => ?_)
    ·
      exact absurd h17 (by omega)
    ·
      refine go_aload_n dX10_holds_20 rfl ?_
      refine go_getR dX10_holds_21 fl_X10_71 (by first | assumption | exact Nat.le_of_ble_eq_true rfl) (by first | assumption | rfl) rfl (by first | assumption | rfl) ?_
      refine go_bipush dX10_holds_24 rfl (by decide) ?_
      refine go_aload_n dX10_holds_26 rfl ?_
      refine go_iload_n dX10_holds_27 rfl ?_
      refine go_iconst dX10_holds_28 rfl ?_
      refine go_vI (ci := 9) dX10_holds_29 (ct_X10_of _ _ (by omega) (by omega) (by omega) (by omega)) ml_X10_92 mc_X10_of mv_X10_of rfl (by first | assumption | exact Nat.le_of_ble_eq_true rfl) (by first | assumption | rfl) rfl ⟨rfl, rfl⟩ ⟨Nat.le_refl _, Nat.le_refl _⟩ rfl rfl rfl (fun x29 μ29 hc29 => ?_)
      obtain ⟨rfl, hm29⟩ := hc29
      rw [hm29]
      try simp (disch := omega) only [ud, ua_same, ua_ne, uf_same, uf_ne]
      refine go_iastore dX10_holds_32 (by first | assumption | exact Nat.le_of_ble_eq_true rfl) (by first | assumption | rfl) (by omega) (by omega) ?_
      refine go_aload_n dX10_holds_33 rfl ?_
      refine go_getR dX10_holds_34 fl_X10_71 (by first | assumption | exact Nat.le_of_ble_eq_true rfl) (by first | assumption | rfl) rfl (by first | assumption | rfl) ?_
      refine go_bipush dX10_holds_37 rfl (by decide) ?_
      refine go_iload_n dX10_holds_39 rfl ?_
      refine go_bipush dX10_holds_40 rfl (by decide) ?_
      refine go_idiv dX10_holds_42 (by omega) (by omega) ?_
      refine go_iastore dX10_holds_43 (by first | assumption | exact Nat.le_of_ble_eq_true rfl) (by first | assumption | rfl) (by omega) (by omega) ?_
      refine go_aload_n dX10_holds_44 rfl ?_
      refine go_iload_n dX10_holds_45 rfl ?_
      refine go_vI (ci := 9) dX10_holds_46 (ct_X10_worked (by simp (disch := omega) only [ud, ua_same, ua_ne]; exact hT) i (by simp (disch := omega) only [ud, ua_same, ua_ne]; exact hin)) ml_X10_100 mc_X10_worked mv_X10_worked rfl (by first | assumption | exact Nat.le_of_ble_eq_true rfl) (by first | assumption | rfl) rfl ⟨rfl, rfl⟩ ⟨Nat.le_refl _, Nat.le_refl _⟩ rfl rfl rfl (fun x46 μ46 hc46 => ?_)
      simp (disch := omega) only [ud, ua_same, ua_ne] at hc46
      obtain ⟨rfl, hf46⟩ := hc46
      have hf : ∀ q, q ≠ 108 → q ≠ 109 → μ46 q = μ q := fun q a b => by rw [hf46 q b]; simp (disch := omega) only [ud, ua_ne]
      have e88 : μ46 88 = μ 88 := hf _ (by omega) (by omega)
      have hph : plainH (LM (vm (μ 88)) 32) (vm (μ 88) 34 c) (c / 6) = max 0 (min 99 (evL (pvN (uf (uf (μ 108) 115 (μ 88 (8 + 3 * c + 1))) 114 (c / 6))) (cdL (μ 88) i))) := by unfold plainH; rw [lawOf_c, show (vm (μ 88) 32 13).toNat = (μ 88 1).toNat from rfl, hlk, vm_34 hc0 hc1]; show cl (evL (pvW (μ 88 (8 + 3 * c + 1)) (c / 6) 0) (cdL (μ 88) i)) 0 99 = _; rw [← evL_cg (fun cd hcd hpd => pv_1 (nm := uf (uf (μ 108) 115 (μ 88 (8 + 3 * c + 1))) 114 (c / 6)) (htx.2.2 cd hcd) hpd (by simp (disch := omega) only [uf_same, uf_ne]) (by simp (disch := omega) only [uf_same, uf_ne]))]; rfl
      refine go_bipush dX10_holds_49 rfl (by decide) ?_
      refine go_sI dX10_holds_51 (ct_X10_within _ _ (by omega)) ml_X10_103 mc_X10_within ms_X10_within ⟨rfl, rfl⟩ ⟨Nat.le_refl _, Nat.le_refl _⟩ rfl rfl rfl (fun x51 μ51 hc51 => ?_)
      obtain ⟨rfl, hm51⟩ := hc51
      rw [hm51]
      refine go_istore_n dX10_holds_54 rfl ?_
      refine go_aload_n dX10_holds_55 rfl ?_
      refine go_iload_n dX10_holds_56 rfl ?_
      refine go_iconst dX10_holds_57 rfl ?_
      refine go_vI (ci := 9) dX10_holds_58 (ct_X10_of _ _ (by omega) (by omega) (by omega) (by omega)) ml_X10_92 mc_X10_of mv_X10_of rfl (by first | assumption | exact Nat.le_of_ble_eq_true rfl) (by first | assumption | rfl) rfl ⟨rfl, rfl⟩ ⟨Nat.le_refl _, Nat.le_refl _⟩ rfl rfl rfl (fun x58 μ58 hc58 => ?_)
      rw [e88] at hc58
      obtain ⟨rfl, hm58⟩ := hc58
      rw [hm58]
      refine go_istore dX10_holds_61 rfl ?_
      refine go_iload dX10_holds_63 rfl ?_
      refine go_iconst dX10_holds_65 rfl ?_
      refine go_icmp_ne (tgt := 75) dX10_holds_66 rfl (fun h66 => ?_) (fun h66 => ?_)
      ·
        refine go_iload dX10_holds_75 rfl ?_
        refine go_iconst dX10_holds_77 rfl ?_
        refine go_icmp_ne (tgt := 92) dX10_holds_78 rfl (fun h78 => ?_) (fun h78 => ?_)
        ·
          refine go_iload dX10_holds_92 rfl ?_
          refine go_iconst dX10_holds_94 rfl ?_
          refine go_icmp_ne (tgt := 105) dX10_holds_95 rfl (fun h95 => ?_) (fun h95 => ?_)
          ·
            refine go_iload_n dX10_holds_105 rfl ?_
            exact go_ri dX10_holds_106 tyI ⟨Nat.le_refl _, Nat.le_refl _⟩ (⟨by rw [vm_33 hc0 hc1, hph]; unfold kHold; (repeat (first | rw [if_pos (by omega)] | rw [if_neg (by omega)])), hf⟩)
          ·
            refine go_iload_n dX10_holds_98 rfl ?_
            refine go_bipush dX10_holds_99 rfl (by decide) ?_
            refine go_iadd dX10_holds_101 ⟨by omega, by omega⟩ ?_
            refine go_goto (tgt := 106) dX10_holds_102 rfl ?_
            exact go_ri dX10_holds_106 tyI ⟨Nat.le_refl _, Nat.le_refl _⟩ (⟨by rw [vm_33 hc0 hc1, hph]; unfold kHold; (repeat (first | rw [if_pos (by omega)] | rw [if_neg (by omega)])), hf⟩)
        ·
          refine go_iload_n dX10_holds_81 rfl ?_
          refine go_iconst dX10_holds_82 rfl ?_
          refine go_iadd dX10_holds_83 ⟨by omega, by omega⟩ ?_
          refine go_aload_n dX10_holds_84 rfl ?_
          refine go_vI (ci := 9) dX10_holds_85 (ct_X10_sun (by rw [e88]; exact iH.1) (by rw [e88]; exact iH.2)) ml_X10_112 mc_X10_sun mv_X10_sun rfl (by first | assumption | exact Nat.le_of_ble_eq_true rfl) (by first | assumption | rfl) rfl ⟨rfl, rfl⟩ ⟨Nat.le_refl _, Nat.le_refl _⟩ rfl rfl rfl (fun x85 μ85 hc85 => ?_)
          rw [e88] at hc85
          obtain ⟨rfl, hm85⟩ := hc85
          rw [hm85]
          refine go_isub dX10_holds_88 ⟨by omega, by omega⟩ ?_
          refine go_goto (tgt := 106) dX10_holds_89 rfl ?_
          exact go_ri dX10_holds_106 tyI ⟨Nat.le_refl _, Nat.le_refl _⟩ (⟨by rw [vm_33 hc0 hc1, hph]; unfold kHold; (repeat (first | rw [if_pos (by omega)] | rw [if_neg (by omega)])), hf⟩)
      ·
        refine go_iload_n dX10_holds_69 rfl ?_
        refine go_iconst dX10_holds_70 rfl ?_
        refine go_iadd dX10_holds_71 ⟨by omega, by omega⟩ ?_
        refine go_goto (tgt := 106) dX10_holds_72 rfl ?_
        exact go_ri dX10_holds_106 tyI ⟨Nat.le_refl _, Nat.le_refl _⟩ (⟨by rw [vm_33 hc0 hc1, hph]; unfold kHold; (repeat (first | rw [if_pos (by omega)] | rw [if_neg (by omega)])), hf⟩)


set_option maxRecDepth 100000 in
set_option maxHeartbeats 4000000 in
theorem ct_X10_stepInto {l : Launch} {D : va_G} {cA : Nat → ClassId} {μ : Mem} (hI : mdI (μ 88)) (a b : Int) (ha0 : 0 ≤ a) (ha1 : a < 30) (hb0 : 0 ≤ b) (hb1 : b < 30) : CtN l D cA yX10_stepInto cX10_stepInto 6 (some .int) 4 [vr 87, vi a, vi b] μ (Pi (fun x μ' => x = stepV (LM (vm (μ 88)) 32) (vm (μ 88) 34 b) (upV a b) ∧ ∀ q, q ≠ 108 → q ≠ 109 → μ' q = μ q)) := by
  refine Ct.of (own := RX10) (by decide +kernel) rfl (fun σ => Nat.le_of_ble_eq_true rfl) (fun hM hP ha => ?_)
  obtain ⟨m87, r88, s88, r89, s89, r90, s90, r91, s91, r92, s92, r93, s93, r94, s94, r95, s95, r96, s96, r97, s97, r98, s98, r99, s99, r100, s100, r101, s101, r102, s102, r103, s103, r104, s104, r105, s105, r106, s106, r107, s107, r108, s108, r109, s109, r110, s110, r111, s111, r112, s112⟩ := md_f
  obtain ⟨iK, iS, iL, iT, iTn, iD, iH, iF, iX⟩ := md_b hI
  have hT := md_t hI
  cases hlk : lastK (fun i => vm (μ 88) (4 + 2 * i) 0) 2 (μ 88 1).toNat with
  | none =>
    have hb2 := iS b hb0 hb1
    refine go_aload_n dX10_stepInto_0 rfl ?_
    refine go_iload_n dX10_stepInto_1 rfl ?_
    refine go_iconst dX10_stepInto_2 rfl ?_
    refine go_vI (ci := 9) dX10_stepInto_3 (ct_X10_of _ _ (by omega) (by omega) (by omega) (by omega)) ml_X10_92 mc_X10_of mv_X10_of rfl (by first | assumption | exact Nat.le_of_ble_eq_true rfl) (by first | assumption | rfl) rfl ⟨rfl, rfl⟩ ⟨Nat.le_refl _, Nat.le_refl _⟩ rfl rfl rfl (fun x3 μ3 hc3 => ?_)
    obtain ⟨rfl, hm3⟩ := hc3
    rw [hm3]
    try simp (disch := omega) only [ud, ua_same, ua_ne, uf_same, uf_ne]
    refine go_istore_n dX10_stepInto_6 rfl ?_
    refine go_iload_n dX10_stepInto_7 rfl ?_
    refine go_bipush dX10_stepInto_8 rfl (by decide) ?_
    refine go_idiv dX10_stepInto_10 (by omega) (by omega) ?_
    refine go_iload_n dX10_stepInto_11 rfl ?_
    refine go_bipush dX10_stepInto_12 rfl (by decide) ?_
    refine go_idiv dX10_stepInto_14 (by omega) (by omega) ?_
    refine go_icmp_le (tgt := 22) dX10_stepInto_15 rfl (fun h15 => ?_) (fun h15 => ?_)
    ·
      refine go_iconst dX10_stepInto_22 rfl ?_
      refine go_istore dX10_stepInto_23 rfl ?_
      refine go_aload_n dX10_stepInto_25 rfl ?_
      refine go_iconst dX10_stepInto_26 rfl ?_
      refine go_vI (ci := 9) dX10_stepInto_27 (ct_X10_counts hT 2) ml_X10_96 mc_X10_counts mv_X10_counts rfl (by first | assumption | exact Nat.le_of_ble_eq_true rfl) (by first | assumption | rfl) rfl ⟨rfl, rfl⟩ ⟨Nat.le_refl _, Nat.le_refl _⟩ rfl rfl rfl (fun x27 μ27 hc27 => ?_)
      obtain ⟨rfl, hm27⟩ := hc27
      rw [hm27, hlk]
      simp only [onM]
      refine go_istore dX10_stepInto_30 rfl ?_
      refine go_iload dX10_stepInto_32 rfl ?_
      refine go_if_ge (tgt := 55) dX10_stepInto_34 rfl (fun h34 => ?_) (fun h34 => ?_)
      ·
        exact absurd h34 (by omega)
      ·
        refine go_iconst dX10_stepInto_37 rfl ?_
        refine go_iload_n dX10_stepInto_38 rfl ?_
        refine go_bipush dX10_stepInto_39 rfl (by decide) ?_
        refine go_idiv dX10_stepInto_41 (by omega) (by omega) ?_
        refine go_iadd dX10_stepInto_42 ⟨by omega, by omega⟩ ?_
        refine go_iload dX10_stepInto_43 rfl ?_
        first | refine go_bz (tgt := 52) dX10_stepInto_45 rfl (fun h45 => ?_) (fun h45 => ?_) | refine go_if_eq (tgt := 52) dX10_stepInto_45 rfl (fun h45 => ?_) (fun h45 => ?_)
        ·
          refine go_iconst dX10_stepInto_52 rfl ?_
          refine go_iadd dX10_stepInto_53 ⟨by omega, by omega⟩ ?_
          exact go_ri dX10_stepInto_54 tyI ⟨Nat.le_refl _, Nat.le_refl _⟩ (⟨by unfold stepV; rw [lawOf_c, show (vm (μ 88) 32 13).toNat = (μ 88 1).toNat from rfl, hlk, vm_34 hb0 hb1]; rw [show upV a b = 0 from if_neg (by omega)]; simp only [Option.map]; omega, fun _ _ _ => rfl⟩)
        ·
          exact absurd h45 (by omega)
    ·
      refine go_iconst dX10_stepInto_18 rfl ?_
      refine go_goto (tgt := 23) dX10_stepInto_19 rfl ?_
      refine go_istore dX10_stepInto_23 rfl ?_
      refine go_aload_n dX10_stepInto_25 rfl ?_
      refine go_iconst dX10_stepInto_26 rfl ?_
      refine go_vI (ci := 9) dX10_stepInto_27 (ct_X10_counts hT 2) ml_X10_96 mc_X10_counts mv_X10_counts rfl (by first | assumption | exact Nat.le_of_ble_eq_true rfl) (by first | assumption | rfl) rfl ⟨rfl, rfl⟩ ⟨Nat.le_refl _, Nat.le_refl _⟩ rfl rfl rfl (fun x27 μ27 hc27 => ?_)
      obtain ⟨rfl, hm27⟩ := hc27
      rw [hm27, hlk]
      simp only [onM]
      refine go_istore dX10_stepInto_30 rfl ?_
      refine go_iload dX10_stepInto_32 rfl ?_
      refine go_if_ge (tgt := 55) dX10_stepInto_34 rfl (fun h34 => ?_) (fun h34 => ?_)
      ·
        exact absurd h34 (by omega)
      ·
        refine go_iconst dX10_stepInto_37 rfl ?_
        refine go_iload_n dX10_stepInto_38 rfl ?_
        refine go_bipush dX10_stepInto_39 rfl (by decide) ?_
        refine go_idiv dX10_stepInto_41 (by omega) (by omega) ?_
        refine go_iadd dX10_stepInto_42 ⟨by omega, by omega⟩ ?_
        refine go_iload dX10_stepInto_43 rfl ?_
        first | refine go_bz (tgt := 52) dX10_stepInto_45 rfl (fun h45 => ?_) (fun h45 => ?_) | refine go_if_eq (tgt := 52) dX10_stepInto_45 rfl (fun h45 => ?_) (fun h45 => ?_)
        ·
          exact absurd h45 (by omega)
        ·
          refine go_iconst dX10_stepInto_48 rfl ?_
          refine go_goto (tgt := 53) dX10_stepInto_49 rfl ?_
          refine go_iadd dX10_stepInto_53 ⟨by omega, by omega⟩ ?_
          exact go_ri dX10_stepInto_54 tyI ⟨Nat.le_refl _, Nat.le_refl _⟩ (⟨by unfold stepV; rw [lawOf_c, show (vm (μ 88) 32 13).toNat = (μ 88 1).toNat from rfl, hlk, vm_34 hb0 hb1]; rw [show upV a b = 1 from if_pos (by omega)]; simp only [Option.map]; omega, fun _ _ _ => rfl⟩)
  | some i =>
    have hin := (lastK_lt hlk).1
    have hky := (lastK_lt hlk).2
    have htx := tx_f hT hin
    rw [hky] at htx
    have hb2 := iS b hb0 hb1
    refine go_aload_n dX10_stepInto_0 rfl ?_
    refine go_iload_n dX10_stepInto_1 rfl ?_
    refine go_iconst dX10_stepInto_2 rfl ?_
    refine go_vI (ci := 9) dX10_stepInto_3 (ct_X10_of _ _ (by omega) (by omega) (by omega) (by omega)) ml_X10_92 mc_X10_of mv_X10_of rfl (by first | assumption | exact Nat.le_of_ble_eq_true rfl) (by first | assumption | rfl) rfl ⟨rfl, rfl⟩ ⟨Nat.le_refl _, Nat.le_refl _⟩ rfl rfl rfl (fun x3 μ3 hc3 => ?_)
    obtain ⟨rfl, hm3⟩ := hc3
    rw [hm3]
    try simp (disch := omega) only [ud, ua_same, ua_ne, uf_same, uf_ne]
    refine go_istore_n dX10_stepInto_6 rfl ?_
    refine go_iload_n dX10_stepInto_7 rfl ?_
    refine go_bipush dX10_stepInto_8 rfl (by decide) ?_
    refine go_idiv dX10_stepInto_10 (by omega) (by omega) ?_
    refine go_iload_n dX10_stepInto_11 rfl ?_
    refine go_bipush dX10_stepInto_12 rfl (by decide) ?_
    refine go_idiv dX10_stepInto_14 (by omega) (by omega) ?_
    refine go_icmp_le (tgt := 22) dX10_stepInto_15 rfl (fun h15 => ?_) (fun h15 => ?_)
    ·
      refine go_iconst dX10_stepInto_22 rfl ?_
      refine go_istore dX10_stepInto_23 rfl ?_
      refine go_aload_n dX10_stepInto_25 rfl ?_
      refine go_iconst dX10_stepInto_26 rfl ?_
      refine go_vI (ci := 9) dX10_stepInto_27 (ct_X10_counts hT 2) ml_X10_96 mc_X10_counts mv_X10_counts rfl (by first | assumption | exact Nat.le_of_ble_eq_true rfl) (by first | assumption | rfl) rfl ⟨rfl, rfl⟩ ⟨Nat.le_refl _, Nat.le_refl _⟩ rfl rfl rfl (fun x27 μ27 hc27 => ?_)
      obtain ⟨rfl, hm27⟩ := hc27
      rw [hm27, hlk]
      simp only [onM]
      refine go_istore dX10_stepInto_30 rfl ?_
      refine go_iload dX10_stepInto_32 rfl ?_
      refine go_if_ge (tgt := 55) dX10_stepInto_34 rfl (fun h34 => ?_) (fun h34 => ?_)
      ·
        refine go_aload_n dX10_stepInto_55 rfl ?_
        refine go_getR dX10_stepInto_56 fl_X10_71 (by first | assumption | exact Nat.le_of_ble_eq_true rfl) (by first | assumption | rfl) rfl (by first | assumption | rfl) ?_
        refine go_bipush dX10_stepInto_59 rfl (by decide) ?_
        refine go_iload_n dX10_stepInto_61 rfl ?_
        refine go_iastore dX10_stepInto_62 (by first | assumption | exact Nat.le_of_ble_eq_true rfl) (by first | assumption | rfl) (by omega) (by omega) ?_
        refine go_aload_n dX10_stepInto_63 rfl ?_
        refine go_getR dX10_stepInto_64 fl_X10_71 (by first | assumption | exact Nat.le_of_ble_eq_true rfl) (by first | assumption | rfl) rfl (by first | assumption | rfl) ?_
        refine go_bipush dX10_stepInto_67 rfl (by decide) ?_
        refine go_iload dX10_stepInto_69 rfl ?_
        first | refine go_bz (tgt := 78) dX10_stepInto_71 rfl (fun h71 => ?_) (fun h71 => ?_) | refine go_if_eq (tgt := 78) dX10_stepInto_71 rfl (fun h71 => ?_) (fun h71 => ?_)
        ·
          refine go_iconst dX10_stepInto_78 rfl ?_
          refine go_iastore dX10_stepInto_79 (by first | assumption | exact Nat.le_of_ble_eq_true rfl) (by first | assumption | rfl) (by omega) (by omega) ?_
          refine go_aload_n dX10_stepInto_80 rfl ?_
          refine go_iload dX10_stepInto_81 rfl ?_
          refine go_vI (ci := 9) dX10_stepInto_83 (ct_X10_worked (by simp (disch := omega) only [ud, ua_same, ua_ne]; exact hT) i (by simp (disch := omega) only [ud, ua_same, ua_ne]; exact hin)) ml_X10_100 mc_X10_worked mv_X10_worked rfl (by first | assumption | exact Nat.le_of_ble_eq_true rfl) (by first | assumption | rfl) rfl ⟨rfl, rfl⟩ ⟨Nat.le_refl _, Nat.le_refl _⟩ rfl rfl rfl (fun x83 μ83 hc83 => ?_)
          simp (disch := omega) only [ud, ua_same, ua_ne] at hc83
          obtain ⟨rfl, hf83⟩ := hc83
          refine go_bipush dX10_stepInto_86 rfl (by decide) ?_
          refine go_sI dX10_stepInto_88 (ct_X10_within _ _ (by omega)) ml_X10_103 mc_X10_within ms_X10_within ⟨rfl, rfl⟩ ⟨Nat.le_refl _, Nat.le_refl _⟩ rfl rfl rfl (fun x88 μ88 hc88 => ?_)
          obtain ⟨rfl, hm88⟩ := hc88
          rw [hm88]
          exact go_ri dX10_stepInto_91 tyI ⟨Nat.le_refl _, Nat.le_refl _⟩ (⟨by unfold stepV; rw [lawOf_c, show (vm (μ 88) 32 13).toNat = (μ 88 1).toNat from rfl, hlk, vm_34 hb0 hb1]; rw [show upV a b = 0 from if_neg (by omega)]; show _ = cl (evL (pvW (μ 88 (8 + 3 * b + 1)) 0 0) (cdL (μ 88) i)) 0 99; rw [← evL_cg (fun cd hcd hpd => pv_2 (nm := uf (uf (μ 108) 115 (μ 88 (8 + 3 * b + 1))) 117 0) (htx.2.2 cd hcd) hpd (by simp (disch := omega) only [uf_same, uf_ne]) (by simp (disch := omega) only [uf_same, uf_ne]))]; rfl, fun q a b => by rw [hf83 q b]; simp (disch := omega) only [ud, ua_ne]⟩)
        ·
          exact absurd h71 (by omega)
      ·
        exact absurd h34 (by omega)
    ·
      refine go_iconst dX10_stepInto_18 rfl ?_
      refine go_goto (tgt := 23) dX10_stepInto_19 rfl ?_
      refine go_istore dX10_stepInto_23 rfl ?_
      refine go_aload_n dX10_stepInto_25 rfl ?_
      refine go_iconst dX10_stepInto_26 rfl ?_
      refine go_vI (ci := 9) dX10_stepInto_27 (ct_X10_counts hT 2) ml_X10_96 mc_X10_counts mv_X10_counts rfl (by first | assumption | exact Nat.le_of_ble_eq_true rfl) (by first | assumption | rfl) rfl ⟨rfl, rfl⟩ ⟨Nat.le_refl _, Nat.le_refl _⟩ rfl rfl rfl (fun x27 μ27 hc27 => ?_)
      obtain ⟨rfl, hm27⟩ := hc27
      rw [hm27, hlk]
      simp only [onM]
      refine go_istore dX10_stepInto_30 rfl ?_
      refine go_iload dX10_stepInto_32 rfl ?_
      refine go_if_ge (tgt := 55) dX10_stepInto_34 rfl (fun h34 => ?_) (fun h34 => ?_)
      ·
        refine go_aload_n dX10_stepInto_55 rfl ?_
        refine go_getR dX10_stepInto_56 fl_X10_71 (by first | assumption | exact Nat.le_of_ble_eq_true rfl) (by first | assumption | rfl) rfl (by first | assumption | rfl) ?_
        refine go_bipush dX10_stepInto_59 rfl (by decide) ?_
        refine go_iload_n dX10_stepInto_61 rfl ?_
        refine go_iastore dX10_stepInto_62 (by first | assumption | exact Nat.le_of_ble_eq_true rfl) (by first | assumption | rfl) (by omega) (by omega) ?_
        refine go_aload_n dX10_stepInto_63 rfl ?_
        refine go_getR dX10_stepInto_64 fl_X10_71 (by first | assumption | exact Nat.le_of_ble_eq_true rfl) (by first | assumption | rfl) rfl (by first | assumption | rfl) ?_
        refine go_bipush dX10_stepInto_67 rfl (by decide) ?_
        refine go_iload dX10_stepInto_69 rfl ?_
        first | refine go_bz (tgt := 78) dX10_stepInto_71 rfl (fun h71 => ?_) (fun h71 => ?_) | refine go_if_eq (tgt := 78) dX10_stepInto_71 rfl (fun h71 => ?_) (fun h71 => ?_)
        ·
          exact absurd h71 (by omega)
        ·
          refine go_iconst dX10_stepInto_74 rfl ?_
          refine go_goto (tgt := 79) dX10_stepInto_75 rfl ?_
          refine go_iastore dX10_stepInto_79 (by first | assumption | exact Nat.le_of_ble_eq_true rfl) (by first | assumption | rfl) (by omega) (by omega) ?_
          refine go_aload_n dX10_stepInto_80 rfl ?_
          refine go_iload dX10_stepInto_81 rfl ?_
          refine go_vI (ci := 9) dX10_stepInto_83 (ct_X10_worked (by simp (disch := omega) only [ud, ua_same, ua_ne]; exact hT) i (by simp (disch := omega) only [ud, ua_same, ua_ne]; exact hin)) ml_X10_100 mc_X10_worked mv_X10_worked rfl (by first | assumption | exact Nat.le_of_ble_eq_true rfl) (by first | assumption | rfl) rfl ⟨rfl, rfl⟩ ⟨Nat.le_refl _, Nat.le_refl _⟩ rfl rfl rfl (fun x83 μ83 hc83 => ?_)
          simp (disch := omega) only [ud, ua_same, ua_ne] at hc83
          obtain ⟨rfl, hf83⟩ := hc83
          refine go_bipush dX10_stepInto_86 rfl (by decide) ?_
          refine go_sI dX10_stepInto_88 (ct_X10_within _ _ (by omega)) ml_X10_103 mc_X10_within ms_X10_within ⟨rfl, rfl⟩ ⟨Nat.le_refl _, Nat.le_refl _⟩ rfl rfl rfl (fun x88 μ88 hc88 => ?_)
          obtain ⟨rfl, hm88⟩ := hc88
          rw [hm88]
          exact go_ri dX10_stepInto_91 tyI ⟨Nat.le_refl _, Nat.le_refl _⟩ (⟨by unfold stepV; rw [lawOf_c, show (vm (μ 88) 32 13).toNat = (μ 88 1).toNat from rfl, hlk, vm_34 hb0 hb1]; rw [show upV a b = 1 from if_pos (by omega)]; show _ = cl (evL (pvW (μ 88 (8 + 3 * b + 1)) 1 0) (cdL (μ 88) i)) 0 99; rw [← evL_cg (fun cd hcd hpd => pv_2 (nm := uf (uf (μ 108) 115 (μ 88 (8 + 3 * b + 1))) 117 1) (htx.2.2 cd hcd) hpd (by simp (disch := omega) only [uf_same, uf_ne]) (by simp (disch := omega) only [uf_same, uf_ne]))]; rfl, fun q a b => by rw [hf83 q b]; simp (disch := omega) only [ud, ua_ne]⟩)
      ·
        exact absurd h34 (by omega)


