/-! THE REFERENCE: its reader: a piece, all levels, parse, text -/
theorem tok_k {B : Int → Int} {N : Int} {tg : Prop} {b k v : Int} {r : Int → Int} (hk : k < 22 ∨ 26 < k) (h : tokR B N tg b r) : tokR B N tg b (uf r k v) := by
  unfold tokR at *
  rw [uf_ne (by omega), uf_ne (by omega), uf_ne (by omega), uf_ne (by omega), uf_ne (by omega)]
  exact h
theorem pf_k {μ : Mem} {la k v : Int} (hk : 22 ≤ k ∧ k ≤ 31 ∧ k ≠ 30) : PF μ (ud μ 87 k v) la :=
  ⟨fun q a _ => by rw [ud_n a], fun q hq => by rw [ud_s, uf_ne (by omega)], fun j _ => by rw [ud_n (by decide)]⟩
theorem lt_sg {B : Int → Int} {N b c : Int} (hl : ¬ qLt B N b = true) (hd : ¬ qDg B N b = true) (h : bA B N b = c) : ¬ (97 ≤ c ∧ c ≤ 122) ∧ ¬ (48 ≤ c ∧ c ≤ 57) := by
  rw [← h]
  exact ⟨fun q => hl (qLt_t q), fun q => hd (qDg_t q)⟩
theorem nm_lt {k c : Int} (h : nmO k c) : 97 ≤ c ∧ c ≤ 122 := by unfold nmO at h; omega

set_option maxRecDepth 100000 in
set_option maxHeartbeats 8000000 in
theorem pm_part0 {l : Launch} {D : va_G} {cA : Nat → ClassId} {B : Int → Int} {N ke ky la : Int} (hN0 : 0 ≤ N) (hN1 : N ≤ 96) (hla : 0 ≤ la ∧ la ≤ 2922) (hky : 0 ≤ ky ∧ ky ≤ 2) (hkn : ∀ x, x = ke → ¬ qLt B N x = true) {d : Nat} (hP : HL l D cA yX10_part0 cX10_part0 2 B N ke ky la (d) 6) (hE : HL l D cA yX10_either cX10_either 2 B N ke ky la (d) 0) : HL l D cA yX10_part0 cX10_part0 2 B N ke ky la (d + 1) 6 := by
  intro p n s tg μ hp0 hp8 hn0 hn8 hd hM hop hke
  refine Ct.of (own := RX10) (by decide +kernel) rfl (fun σ => Nat.le_of_ble_eq_true rfl) (fun hM0 hP0 ha0 => ?_)
  obtain ⟨m87, r88, s88, r89, s89, r90, s90, r91, s91, r92, s92, r93, s93, r94, s94, r95, s95, r96, s96, r97, s97, r98, s98, r99, s99, r100, s100, r101, s101, r102, s102, r103, s103, r104, s104, r105, s105, r106, s106, r107, s107, r108, s108, r109, s109, r110, s110, r111, s111, r112, s112⟩ := md_f
  obtain ⟨⟨hB, hNN, hok, hfl, h27, h28, h29, h31, h30, hcd⟩, htk⟩ := id hM
  have hsk := skp_r (B := B) hok.2.1
  have hkn := hkn (skp B N (rAt s))
  obtain ⟨hk0, hk1, hk2, hk3, hk4, hk5⟩ := id hok
  refine go_aload_n dX10_part0_0 rfl ?_
  refine go_getI 24 dX10_part0_1 fl_X10_236 (by first | assumption | exact Nat.le_of_ble_eq_true rfl) (by first | assumption | rfl) rfl rfl ?_
  try simp (disch := omega) only [ua_same, ua_ne, uf_same, uf_ne]
  refine go_iconst dX10_part0_4 rfl ?_
  refine go_icmp_ne (tgt := 33) dX10_part0_5 rfl (fun h5 => ?_) (fun h5 => ?_)
  ·
    refine go_aload_n dX10_part0_33 rfl ?_
    refine go_getI 24 dX10_part0_34 fl_X10_236 (by first | assumption | exact Nat.le_of_ble_eq_true rfl) (by first | assumption | rfl) rfl rfl ?_
    try simp (disch := omega) only [ua_same, ua_ne, uf_same, uf_ne]
    refine go_iconst dX10_part0_37 rfl ?_
    refine go_icmp_ne (tgt := 84) dX10_part0_38 rfl (fun h38 => ?_) (fun h38 => ?_)
    ·
      refine go_aload_n dX10_part0_84 rfl ?_
      refine go_bipush dX10_part0_85 rfl (by decide) ?_
      refine go_vI (ci := 9) dX10_part0_87 (ct_X10_isSign _) ml_X10_267 mc_X10_isSign mv_X10_isSign rfl (by first | assumption | exact Nat.le_of_ble_eq_true rfl) (by first | assumption | rfl) rfl ⟨Nat.ble_eq_true_of_le (by dsimp only; omega), rfl⟩ ⟨Nat.le_refl _, Nat.le_refl _⟩ rfl rfl rfl (fun x87 μ87 hc87 => ?_)
      obtain ⟨rfl, hm87⟩ := hc87
      rw [hm87]
      first | refine go_bz (tgt := 145) dX10_part0_90 rfl (fun h90 => ?_) (fun h90 => ?_) | refine go_if_eq (tgt := 145) dX10_part0_90 rfl (fun h90 => ?_) (fun h90 => ?_)
      ·
        refine go_aload_n dX10_part0_145 rfl ?_
        refine go_bipush dX10_part0_146 rfl (by decide) ?_
        refine go_vI (ci := 9) dX10_part0_148 (ct_X10_isSign _) ml_X10_267 mc_X10_isSign mv_X10_isSign rfl (by first | assumption | exact Nat.le_of_ble_eq_true rfl) (by first | assumption | rfl) rfl ⟨Nat.ble_eq_true_of_le (by dsimp only; omega), rfl⟩ ⟨Nat.le_refl _, Nat.le_refl _⟩ rfl rfl rfl (fun x148 μ148 hc148 => ?_)
        obtain ⟨rfl, hm148⟩ := hc148
        rw [hm148]
        first | refine go_bz (tgt := 163) dX10_part0_151 rfl (fun h151 => ?_) (fun h151 => ?_) | refine go_if_eq (tgt := 163) dX10_part0_151 rfl (fun h151 => ?_) (fun h151 => ?_)
        ·
          refine go_iconst dX10_part0_163 rfl ?_
          refine go_ri dX10_part0_164 (tyZ (by first | exact Or.inl rfl | exact Or.inr rfl | exact tv_01 | assumption)) ⟨Nat.le_refl _, Nat.le_refl _⟩ (?_)
          have hr0 := hok.1
          have hrx : (rdL B N ke ky (d + 1) 6 p n s) = sFl (sAt s (skp B N (rAt s))) (skp B N (rAt s)) := by
            refine rp_bad hfl ?_ ?_ ?_ ?_
            · exact fun h => h151 ((tk_s (c := 40) htk hsk.2 (by decide) (by decide) (by decide)).mpr h.1)
            · exact fun h => h90 ((tk_s (c := 33) htk hsk.2 (by decide) (by decide) (by decide)).mpr h.1)
            · intro hq
              have hlt : (skp B N (rAt s)) < N := bA_lt (B := B) (by have : 48 ≤ bA B N (skp B N (rAt s)) ∧ bA B N (skp B N (rAt s)) ≤ 57 := of_decide_eq_true hq; omega)
              obtain ⟨_, d2, d3⟩ := htk.2.2.2.1 hlt hq
              by_cases e1 : (skp B N (rAt s)) = ke
              · exact Or.inl e1
              · by_cases e2 : 4 < wEd B N (skp B N (rAt s)) - (skp B N (rAt s))
                · exact Or.inr e2
                · exact absurd (d3 ⟨fun t => e1 (hop.mp t), by omega⟩).1 h5
            · rintro hq ⟨hnm, hw⟩
              have hnl := nm_lt hnm
              have hqL : qLt B N (skp B N (rAt s)) = true := qLt_t hnl
              have hlt : (skp B N (rAt s)) < N := bA_lt (B := B) (by omega)
              have hbA : bA B N (skp B N (rAt s)) = B (skp B N (rAt s)) := if_pos hlt
              obtain ⟨_, t1, t2, t3⟩ := htk.2.2.1 hlt hqL
              rw [if_pos (by omega)] at t3
              by_cases ht : tg
              · have hke1 := hop.mp ht
                have := hkn hke1
                exact absurd hqL this
              · exact h38 (t2 ht)
          rw [hrx]
          exact ⟨fun h => absurd (show (skp B N (rAt s)) = -1000000005 from h) (by omega), fun _ => ⟨rfl, htk.1⟩, PF.rf⟩
        ·
          refine go_aload_n dX10_part0_154 rfl ?_
          refine go_getI 27 dX10_part0_155 fl_X10_298 (by first | assumption | exact Nat.le_of_ble_eq_true rfl) (by first | assumption | rfl) rfl rfl ?_
          try simp (disch := omega) only [ua_same, ua_ne, uf_same, uf_ne]
          refine go_bipush dX10_part0_158 rfl (by decide) ?_
          refine go_icmp_ne (tgt := 165) dX10_part0_160 rfl (fun h160 => ?_) (fun h160 => ?_)
          ·
            have hsg : bA B N (skp B N (rAt s)) = 40 := (tk_s (c := 40) htk hsk.2 (by decide) (by decide) (by decide)).mp h151
            obtain ⟨q1, q2, q3, q4, q5⟩ := tk_3 htk hsk.2 h151.1
            have hp7 : p < 8 := by omega
            have hrx : (rdL B N ke ky (d + 1) 6 p n s) = clS B N (rdL B N ke ky d 0 (p + 1) n (sAt s ((skp B N (rAt s)) + 1))) := rp_par hfl hsg hp7
            have hok1 := (gw_at hok (v := (skp B N (rAt s)) + 1) (by omega) (by omega)).1
            refine go_aload_n dX10_part0_165 rfl ?_
            refine go_dup dX10_part0_166 rfl ?_
            refine go_getI 27 dX10_part0_167 fl_X10_298 (by first | assumption | exact Nat.le_of_ble_eq_true rfl) (by first | assumption | rfl) rfl rfl ?_
            try simp (disch := omega) only [ua_same, ua_ne, uf_same, uf_ne]
            refine go_iconst dX10_part0_170 rfl ?_
            refine go_iadd dX10_part0_171 ⟨by omega, by omega⟩ ?_
            rw [h27]
            refine go_putI 27 dX10_part0_172 pl_X10_298 (by first | assumption | exact Nat.le_of_ble_eq_true rfl) (by first | assumption | rfl) rfl rfl ?_
            refine go_aload_n dX10_part0_175 rfl ?_
            refine go_vV (ci := 9) dX10_part0_176 (ct_X10_nextToken (μ := (ud μ 87 27 (p + 1))) (by simp (disch := omega) only [ua_same, ua_ne, uf_same, uf_ne]; rw [hNN]; exact hN0) (by simp (disch := omega) only [ua_same, ua_ne, uf_same, uf_ne]; rw [hNN]; exact hN1) (by simp (disch := omega) only [ua_same, ua_ne, uf_same, uf_ne]; omega) (by simp (disch := omega) only [ua_same, ua_ne, uf_same, uf_ne]; omega)) ml_X10_270 mc_X10_nextToken mv_X10_nextToken rfl (by first | assumption | exact Nat.le_of_ble_eq_true rfl) (by first | assumption | rfl) rfl ⟨Nat.ble_eq_true_of_le (by dsimp only; omega), rfl⟩ ⟨Nat.le_refl _, Nat.le_refl _⟩ rfl rfl rfl (fun μ176 hc176 => ?_)
            obtain ⟨htk176, hf176⟩ := hc176
            have hMo : MSo B N (ud μ 87 27 (p + 1)) (sAt s ((skp B N (rAt s)) + 1)) (p + 1) n la := by
              refine ⟨hB, ?_, hok1, hfl, ?_, ?_, ?_, ?_, ?_, hcd⟩
              · simp (disch := omega) only [ua_same, ua_ne, uf_same, uf_ne]; exact hNN
              · simp (disch := omega) only [ua_same, ua_ne, uf_same, uf_ne]; try exact h27
              · simp (disch := omega) only [ua_same, ua_ne, uf_same, uf_ne]; try exact h28
              · simp (disch := omega) only [ua_same, ua_ne, uf_same, uf_ne]; exact h29
              · simp (disch := omega) only [ua_same, ua_ne, uf_same, uf_ne]; exact h31
              · simp (disch := omega) only [ua_same, ua_ne, uf_same, uf_ne]; exact h30
            obtain ⟨hMn, hPn⟩ := ms_nt hMo (by simp (disch := omega) only [ua_same, ua_ne, uf_same, uf_ne]; exact q5) htk176 hf176
            refine go_aload_n dX10_part0_179 rfl ?_
            refine go_iload_n dX10_part0_180 rfl ?_
            refine go_vI (ci := 9) dX10_part0_181 (hE (p + 1) n (sAt s ((skp B N (rAt s)) + 1)) _ μ176 (by omega) (by omega) hn0 hn8 (by omega) hMn ⟨fun h => absurd h.1.2 (by simp (disch := omega) only [ua_same, ua_ne, uf_same, uf_ne]; omega), fun h => absurd h (by have := (skp_r (B := B) (p := (skp B N (rAt s)) + 1) (show (skp B N (rAt s)) + 1 ≤ N by omega)).1; show ¬ (skp B N ((skp B N (rAt s)) + 1) = ke); omega)⟩ (by show ke ≤ (skp B N (rAt s)) + 1; omega)) ml_X10_301 mc_X10_either mv_X10_either rfl (by first | assumption | exact Nat.le_of_ble_eq_true rfl) (by first | assumption | rfl) rfl ⟨Nat.ble_eq_true_of_le (by dsimp only; omega), rfl⟩ ⟨Nat.le_refl _, Nat.le_refl _⟩ rfl rfl rfl (fun x181 μ181 hc181 => ?_)
            first | refine go_bz (tgt := 196) dX10_part0_184 rfl (fun h184 => ?_) (fun h184 => ?_) | refine go_if_eq (tgt := 196) dX10_part0_184 rfl (fun h184 => ?_) (fun h184 => ?_)
            ·
              refine go_iconst dX10_part0_196 rfl ?_
              refine go_ri dX10_part0_197 (tyZ (by first | exact Or.inl rfl | exact Or.inr rfl | exact tv_01 | assumption)) ⟨Nat.le_refl _, Nat.le_refl _⟩ (?_)
              have hnf : rFl (rdL B N ke ky d 0 (p + 1) n (sAt s ((skp B N (rAt s)) + 1))) ≠ -1000000005 := fun h => by have := (hc181.1 h).1; omega
              have hcl : clS B N (rdL B N ke ky d 0 (p + 1) n (sAt s ((skp B N (rAt s)) + 1))) = (rdL B N ke ky d 0 (p + 1) n (sAt s ((skp B N (rAt s)) + 1))) := if_neg hnf
              rw [hrx, hcl]
              exact ⟨fun h => absurd h hnf, fun _ => ⟨rfl, (hc181.2.1 hnf).2⟩, ((pf_k (by omega)).tr (hPn.tr hc181.2.2))⟩
            ·
              have hnf : rFl (rdL B N ke ky d 0 (p + 1) n (sAt s ((skp B N (rAt s)) + 1))) = -1000000005 := Decidable.byContradiction (fun h => h184 (hc181.2.1 h).1)
              obtain ⟨_, tg2, hMs⟩ := hc181.1 hnf
              obtain ⟨⟨hBc, hNc, hokc, _, h27c, h28c, h29c, h31c, h30c, hcdc⟩, htkc⟩ := id hMs
              have hskc := skp_r (B := B) hokc.2.1
              refine go_aload_n dX10_part0_187 rfl ?_
              refine go_bipush dX10_part0_188 rfl (by decide) ?_
              refine go_vI (ci := 9) dX10_part0_190 (ct_X10_isSign _) ml_X10_267 mc_X10_isSign mv_X10_isSign rfl (by first | assumption | exact Nat.le_of_ble_eq_true rfl) (by first | assumption | rfl) rfl ⟨Nat.ble_eq_true_of_le (by dsimp only; omega), rfl⟩ ⟨Nat.le_refl _, Nat.le_refl _⟩ rfl rfl rfl (fun x190 μ190 hc190 => ?_)
              obtain ⟨rfl, hm190⟩ := hc190
              rw [hm190]
              first | refine go_bnz (tgt := 198) dX10_part0_193 rfl (fun h193 => ?_) (fun h193 => ?_) | refine go_if_ne (tgt := 198) dX10_part0_193 rfl (fun h193 => ?_) (fun h193 => ?_)
              ·
                have hy41 : bA B N (skp B N (rAt (rdL B N ke ky d 0 (p + 1) n (sAt s ((skp B N (rAt s)) + 1))))) = 41 := (tk_s (c := 41) htkc hskc.2 (by decide) (by decide) (by decide)).mp h193
                obtain ⟨v1, v2, v3, v4, v5⟩ := tk_3 htkc hskc.2 h193.1
                have hcl : clS B N (rdL B N ke ky d 0 (p + 1) n (sAt s ((skp B N (rAt s)) + 1))) = (sAt (rdL B N ke ky d 0 (p + 1) n (sAt s ((skp B N (rAt s)) + 1))) (skp B N (rAt (rdL B N ke ky d 0 (p + 1) n (sAt s ((skp B N (rAt s)) + 1)))) + 1)) := (if_pos hnf).trans (if_pos hy41)
                have hok3 := (gw_at hokc (v := skp B N (rAt (rdL B N ke ky d 0 (p + 1) n (sAt s ((skp B N (rAt s)) + 1)))) + 1) (by omega) (by omega)).1
                refine go_aload_n dX10_part0_198 rfl ?_
                refine go_dup dX10_part0_199 rfl ?_
                refine go_getI 27 dX10_part0_200 fl_X10_298 (by first | assumption | exact Nat.le_of_ble_eq_true rfl) (by first | assumption | rfl) rfl rfl ?_
                try simp (disch := omega) only [ua_same, ua_ne, uf_same, uf_ne]
                refine go_iconst dX10_part0_203 rfl ?_
                refine go_isub dX10_part0_204 ⟨by omega, by omega⟩ ?_
                rw [h27c, show p + 1 - 1 = p by omega]
                refine go_putI 27 dX10_part0_205 pl_X10_298 (by first | assumption | exact Nat.le_of_ble_eq_true rfl) (by first | assumption | rfl) rfl rfl ?_
                refine go_aload_n dX10_part0_208 rfl ?_
                refine go_vV (ci := 9) dX10_part0_209 (ct_X10_nextToken (μ := (ud μ181 87 27 p)) (by simp (disch := omega) only [ua_same, ua_ne, uf_same, uf_ne]; rw [hNc]; exact hN0) (by simp (disch := omega) only [ua_same, ua_ne, uf_same, uf_ne]; rw [hNc]; exact hN1) (by simp (disch := omega) only [ua_same, ua_ne, uf_same, uf_ne]; rw [v5]; have := hokc.1; omega) (by simp (disch := omega) only [ua_same, ua_ne, uf_same, uf_ne]; rw [v5, hNc]; omega)) ml_X10_270 mc_X10_nextToken mv_X10_nextToken rfl (by first | assumption | exact Nat.le_of_ble_eq_true rfl) (by first | assumption | rfl) rfl ⟨Nat.ble_eq_true_of_le (by dsimp only; omega), rfl⟩ ⟨Nat.le_refl _, Nat.le_refl _⟩ rfl rfl rfl (fun μ209 hc209 => ?_)
                obtain ⟨htk209, hf209⟩ := hc209
                have hMo2 : MSo B N (ud μ181 87 27 p) (sAt (rdL B N ke ky d 0 (p + 1) n (sAt s ((skp B N (rAt s)) + 1))) (skp B N (rAt (rdL B N ke ky d 0 (p + 1) n (sAt s ((skp B N (rAt s)) + 1)))) + 1)) p n la := by
                  refine ⟨hBc, ?_, hok3, hnf, ?_, ?_, ?_, ?_, ?_, hcdc⟩
                  · simp (disch := omega) only [ua_same, ua_ne, uf_same, uf_ne]; exact hNc
                  · simp (disch := omega) only [ua_same, ua_ne, uf_same, uf_ne]
                  · simp (disch := omega) only [ua_same, ua_ne, uf_same, uf_ne]; exact h28c
                  · simp (disch := omega) only [ua_same, ua_ne, uf_same, uf_ne]; exact h29c
                  · simp (disch := omega) only [ua_same, ua_ne, uf_same, uf_ne]; exact h31c
                  · simp (disch := omega) only [ua_same, ua_ne, uf_same, uf_ne]; exact h30c
                obtain ⟨hMn3, hPn3⟩ := ms_nt hMo2 (by simp (disch := omega) only [ua_same, ua_ne, uf_same, uf_ne]; exact v5) htk209 hf209
                refine go_iconst dX10_part0_212 rfl ?_
                refine go_ri dX10_part0_213 (tyZ (by first | exact Or.inl rfl | exact Or.inr rfl | exact tv_01 | assumption)) ⟨Nat.le_refl _, Nat.le_refl _⟩ (?_)
                rw [hrx, hcl]
                exact ⟨fun _ => ⟨rfl, _, hMn3⟩, fun h => absurd hnf h, ((pf_k (by omega)).tr (hPn.tr hc181.2.2)).tr ((pf_k (by omega)).tr hPn3)⟩
              ·
                refine go_iconst dX10_part0_196 rfl ?_
                refine go_ri dX10_part0_197 (tyZ (by first | exact Or.inl rfl | exact Or.inr rfl | exact tv_01 | assumption)) ⟨Nat.le_refl _, Nat.le_refl _⟩ (?_)
                have hn41 : ¬ bA B N (skp B N (rAt (rdL B N ke ky d 0 (p + 1) n (sAt s ((skp B N (rAt s)) + 1))))) = 41 := fun e => h193 ((tk_s (c := 41) htkc hskc.2 (by decide) (by decide) (by decide)).mpr e)
                have hcl : clS B N (rdL B N ke ky d 0 (p + 1) n (sAt s ((skp B N (rAt s)) + 1))) = sFl (sAt (rdL B N ke ky d 0 (p + 1) n (sAt s ((skp B N (rAt s)) + 1))) (skp B N (rAt (rdL B N ke ky d 0 (p + 1) n (sAt s ((skp B N (rAt s)) + 1)))))) (skp B N (rAt (rdL B N ke ky d 0 (p + 1) n (sAt s ((skp B N (rAt s)) + 1))))) := (if_pos hnf).trans (if_neg hn41)
                have hr0 := hokc.1
                rw [hrx, hcl]
                exact ⟨fun h => absurd (show skp B N (rAt (rdL B N ke ky d 0 (p + 1) n (sAt s ((skp B N (rAt s)) + 1)))) = -1000000005 from h) (by omega), fun _ => ⟨rfl, htkc.1⟩, ((pf_k (by omega)).tr (hPn.tr hc181.2.2))⟩
          ·
            refine go_iconst dX10_part0_163 rfl ?_
            refine go_ri dX10_part0_164 (tyZ (by first | exact Or.inl rfl | exact Or.inr rfl | exact tv_01 | assumption)) ⟨Nat.le_refl _, Nat.le_refl _⟩ (?_)
            have hr0 := hok.1
            have hrx : (rdL B N ke ky (d + 1) 6 p n s) = sFl (sAt s (skp B N (rAt s))) (skp B N (rAt s)) := by
              refine rp_bad hfl ?_ ?_ ?_ ?_
              · exact fun h => absurd h.2 (by omega)
              · exact fun h => h90 ((tk_s (c := 33) htk hsk.2 (by decide) (by decide) (by decide)).mpr h.1)
              · intro hq
                have hlt : (skp B N (rAt s)) < N := bA_lt (B := B) (by have : 48 ≤ bA B N (skp B N (rAt s)) ∧ bA B N (skp B N (rAt s)) ≤ 57 := of_decide_eq_true hq; omega)
                obtain ⟨_, d2, d3⟩ := htk.2.2.2.1 hlt hq
                by_cases e1 : (skp B N (rAt s)) = ke
                · exact Or.inl e1
                · by_cases e2 : 4 < wEd B N (skp B N (rAt s)) - (skp B N (rAt s))
                  · exact Or.inr e2
                  · exact absurd (d3 ⟨fun t => e1 (hop.mp t), by omega⟩).1 h5
              · rintro hq ⟨hnm, hw⟩
                have hnl := nm_lt hnm
                have hqL : qLt B N (skp B N (rAt s)) = true := qLt_t hnl
                have hlt : (skp B N (rAt s)) < N := bA_lt (B := B) (by omega)
                have hbA : bA B N (skp B N (rAt s)) = B (skp B N (rAt s)) := if_pos hlt
                obtain ⟨_, t1, t2, t3⟩ := htk.2.2.1 hlt hqL
                rw [if_pos (by omega)] at t3
                by_cases ht : tg
                · have hke1 := hop.mp ht
                  have := hkn hke1
                  exact absurd hqL this
                · exact h38 (t2 ht)
            rw [hrx]
            exact ⟨fun h => absurd (show (skp B N (rAt s)) = -1000000005 from h) (by omega), fun _ => ⟨rfl, htk.1⟩, PF.rf⟩
      ·
        refine go_aload_n dX10_part0_93 rfl ?_
        refine go_getI 28 dX10_part0_94 fl_X10_295 (by first | assumption | exact Nat.le_of_ble_eq_true rfl) (by first | assumption | rfl) rfl rfl ?_
        try simp (disch := omega) only [ua_same, ua_ne, uf_same, uf_ne]
        refine go_bipush dX10_part0_97 rfl (by decide) ?_
        refine go_icmp_ge (tgt := 145) dX10_part0_99 rfl (fun h99 => ?_) (fun h99 => ?_)
        ·
          refine go_aload_n dX10_part0_145 rfl ?_
          refine go_bipush dX10_part0_146 rfl (by decide) ?_
          refine go_vI (ci := 9) dX10_part0_148 (ct_X10_isSign _) ml_X10_267 mc_X10_isSign mv_X10_isSign rfl (by first | assumption | exact Nat.le_of_ble_eq_true rfl) (by first | assumption | rfl) rfl ⟨Nat.ble_eq_true_of_le (by dsimp only; omega), rfl⟩ ⟨Nat.le_refl _, Nat.le_refl _⟩ rfl rfl rfl (fun x148 μ148 hc148 => ?_)
          obtain ⟨rfl, hm148⟩ := hc148
          rw [hm148]
          first | refine go_bz (tgt := 163) dX10_part0_151 rfl (fun h151 => ?_) (fun h151 => ?_) | refine go_if_eq (tgt := 163) dX10_part0_151 rfl (fun h151 => ?_) (fun h151 => ?_)
          ·
            refine go_iconst dX10_part0_163 rfl ?_
            refine go_ri dX10_part0_164 (tyZ (by first | exact Or.inl rfl | exact Or.inr rfl | exact tv_01 | assumption)) ⟨Nat.le_refl _, Nat.le_refl _⟩ (?_)
            have hr0 := hok.1
            have hrx : (rdL B N ke ky (d + 1) 6 p n s) = sFl (sAt s (skp B N (rAt s))) (skp B N (rAt s)) := by
              refine rp_bad hfl ?_ ?_ ?_ ?_
              · exact fun h => h151 ((tk_s (c := 40) htk hsk.2 (by decide) (by decide) (by decide)).mpr h.1)
              · exact fun h => absurd h.2 (by omega)
              · intro hq
                have hlt : (skp B N (rAt s)) < N := bA_lt (B := B) (by have : 48 ≤ bA B N (skp B N (rAt s)) ∧ bA B N (skp B N (rAt s)) ≤ 57 := of_decide_eq_true hq; omega)
                obtain ⟨_, d2, d3⟩ := htk.2.2.2.1 hlt hq
                by_cases e1 : (skp B N (rAt s)) = ke
                · exact Or.inl e1
                · by_cases e2 : 4 < wEd B N (skp B N (rAt s)) - (skp B N (rAt s))
                  · exact Or.inr e2
                  · exact absurd (d3 ⟨fun t => e1 (hop.mp t), by omega⟩).1 h5
              · rintro hq ⟨hnm, hw⟩
                have hnl := nm_lt hnm
                have hqL : qLt B N (skp B N (rAt s)) = true := qLt_t hnl
                have hlt : (skp B N (rAt s)) < N := bA_lt (B := B) (by omega)
                have hbA : bA B N (skp B N (rAt s)) = B (skp B N (rAt s)) := if_pos hlt
                obtain ⟨_, t1, t2, t3⟩ := htk.2.2.1 hlt hqL
                rw [if_pos (by omega)] at t3
                by_cases ht : tg
                · have hke1 := hop.mp ht
                  have := hkn hke1
                  exact absurd hqL this
                · exact h38 (t2 ht)
            rw [hrx]
            exact ⟨fun h => absurd (show (skp B N (rAt s)) = -1000000005 from h) (by omega), fun _ => ⟨rfl, htk.1⟩, PF.rf⟩
          ·
            refine go_aload_n dX10_part0_154 rfl ?_
            refine go_getI 27 dX10_part0_155 fl_X10_298 (by first | assumption | exact Nat.le_of_ble_eq_true rfl) (by first | assumption | rfl) rfl rfl ?_
            try simp (disch := omega) only [ua_same, ua_ne, uf_same, uf_ne]
            refine go_bipush dX10_part0_158 rfl (by decide) ?_
            refine go_icmp_ne (tgt := 165) dX10_part0_160 rfl (fun h160 => ?_) (fun h160 => ?_)
            ·
              have hsg : bA B N (skp B N (rAt s)) = 40 := (tk_s (c := 40) htk hsk.2 (by decide) (by decide) (by decide)).mp h151
              obtain ⟨q1, q2, q3, q4, q5⟩ := tk_3 htk hsk.2 h151.1
              have hp7 : p < 8 := by omega
              have hrx : (rdL B N ke ky (d + 1) 6 p n s) = clS B N (rdL B N ke ky d 0 (p + 1) n (sAt s ((skp B N (rAt s)) + 1))) := rp_par hfl hsg hp7
              have hok1 := (gw_at hok (v := (skp B N (rAt s)) + 1) (by omega) (by omega)).1
              refine go_aload_n dX10_part0_165 rfl ?_
              refine go_dup dX10_part0_166 rfl ?_
              refine go_getI 27 dX10_part0_167 fl_X10_298 (by first | assumption | exact Nat.le_of_ble_eq_true rfl) (by first | assumption | rfl) rfl rfl ?_
              try simp (disch := omega) only [ua_same, ua_ne, uf_same, uf_ne]
              refine go_iconst dX10_part0_170 rfl ?_
              refine go_iadd dX10_part0_171 ⟨by omega, by omega⟩ ?_
              rw [h27]
              refine go_putI 27 dX10_part0_172 pl_X10_298 (by first | assumption | exact Nat.le_of_ble_eq_true rfl) (by first | assumption | rfl) rfl rfl ?_
              refine go_aload_n dX10_part0_175 rfl ?_
              refine go_vV (ci := 9) dX10_part0_176 (ct_X10_nextToken (μ := (ud μ 87 27 (p + 1))) (by simp (disch := omega) only [ua_same, ua_ne, uf_same, uf_ne]; rw [hNN]; exact hN0) (by simp (disch := omega) only [ua_same, ua_ne, uf_same, uf_ne]; rw [hNN]; exact hN1) (by simp (disch := omega) only [ua_same, ua_ne, uf_same, uf_ne]; omega) (by simp (disch := omega) only [ua_same, ua_ne, uf_same, uf_ne]; omega)) ml_X10_270 mc_X10_nextToken mv_X10_nextToken rfl (by first | assumption | exact Nat.le_of_ble_eq_true rfl) (by first | assumption | rfl) rfl ⟨Nat.ble_eq_true_of_le (by dsimp only; omega), rfl⟩ ⟨Nat.le_refl _, Nat.le_refl _⟩ rfl rfl rfl (fun μ176 hc176 => ?_)
              obtain ⟨htk176, hf176⟩ := hc176
              have hMo : MSo B N (ud μ 87 27 (p + 1)) (sAt s ((skp B N (rAt s)) + 1)) (p + 1) n la := by
                refine ⟨hB, ?_, hok1, hfl, ?_, ?_, ?_, ?_, ?_, hcd⟩
                · simp (disch := omega) only [ua_same, ua_ne, uf_same, uf_ne]; exact hNN
                · simp (disch := omega) only [ua_same, ua_ne, uf_same, uf_ne]; try exact h27
                · simp (disch := omega) only [ua_same, ua_ne, uf_same, uf_ne]; try exact h28
                · simp (disch := omega) only [ua_same, ua_ne, uf_same, uf_ne]; exact h29
                · simp (disch := omega) only [ua_same, ua_ne, uf_same, uf_ne]; exact h31
                · simp (disch := omega) only [ua_same, ua_ne, uf_same, uf_ne]; exact h30
              obtain ⟨hMn, hPn⟩ := ms_nt hMo (by simp (disch := omega) only [ua_same, ua_ne, uf_same, uf_ne]; exact q5) htk176 hf176
              refine go_aload_n dX10_part0_179 rfl ?_
              refine go_iload_n dX10_part0_180 rfl ?_
              refine go_vI (ci := 9) dX10_part0_181 (hE (p + 1) n (sAt s ((skp B N (rAt s)) + 1)) _ μ176 (by omega) (by omega) hn0 hn8 (by omega) hMn ⟨fun h => absurd h.1.2 (by simp (disch := omega) only [ua_same, ua_ne, uf_same, uf_ne]; omega), fun h => absurd h (by have := (skp_r (B := B) (p := (skp B N (rAt s)) + 1) (show (skp B N (rAt s)) + 1 ≤ N by omega)).1; show ¬ (skp B N ((skp B N (rAt s)) + 1) = ke); omega)⟩ (by show ke ≤ (skp B N (rAt s)) + 1; omega)) ml_X10_301 mc_X10_either mv_X10_either rfl (by first | assumption | exact Nat.le_of_ble_eq_true rfl) (by first | assumption | rfl) rfl ⟨Nat.ble_eq_true_of_le (by dsimp only; omega), rfl⟩ ⟨Nat.le_refl _, Nat.le_refl _⟩ rfl rfl rfl (fun x181 μ181 hc181 => ?_)
              first | refine go_bz (tgt := 196) dX10_part0_184 rfl (fun h184 => ?_) (fun h184 => ?_) | refine go_if_eq (tgt := 196) dX10_part0_184 rfl (fun h184 => ?_) (fun h184 => ?_)
              ·
                refine go_iconst dX10_part0_196 rfl ?_
                refine go_ri dX10_part0_197 (tyZ (by first | exact Or.inl rfl | exact Or.inr rfl | exact tv_01 | assumption)) ⟨Nat.le_refl _, Nat.le_refl _⟩ (?_)
                have hnf : rFl (rdL B N ke ky d 0 (p + 1) n (sAt s ((skp B N (rAt s)) + 1))) ≠ -1000000005 := fun h => by have := (hc181.1 h).1; omega
                have hcl : clS B N (rdL B N ke ky d 0 (p + 1) n (sAt s ((skp B N (rAt s)) + 1))) = (rdL B N ke ky d 0 (p + 1) n (sAt s ((skp B N (rAt s)) + 1))) := if_neg hnf
                rw [hrx, hcl]
                exact ⟨fun h => absurd h hnf, fun _ => ⟨rfl, (hc181.2.1 hnf).2⟩, ((pf_k (by omega)).tr (hPn.tr hc181.2.2))⟩
              ·
                have hnf : rFl (rdL B N ke ky d 0 (p + 1) n (sAt s ((skp B N (rAt s)) + 1))) = -1000000005 := Decidable.byContradiction (fun h => h184 (hc181.2.1 h).1)
                obtain ⟨_, tg2, hMs⟩ := hc181.1 hnf
                obtain ⟨⟨hBc, hNc, hokc, _, h27c, h28c, h29c, h31c, h30c, hcdc⟩, htkc⟩ := id hMs
                have hskc := skp_r (B := B) hokc.2.1
                refine go_aload_n dX10_part0_187 rfl ?_
                refine go_bipush dX10_part0_188 rfl (by decide) ?_
                refine go_vI (ci := 9) dX10_part0_190 (ct_X10_isSign _) ml_X10_267 mc_X10_isSign mv_X10_isSign rfl (by first | assumption | exact Nat.le_of_ble_eq_true rfl) (by first | assumption | rfl) rfl ⟨Nat.ble_eq_true_of_le (by dsimp only; omega), rfl⟩ ⟨Nat.le_refl _, Nat.le_refl _⟩ rfl rfl rfl (fun x190 μ190 hc190 => ?_)
                obtain ⟨rfl, hm190⟩ := hc190
                rw [hm190]
                first | refine go_bnz (tgt := 198) dX10_part0_193 rfl (fun h193 => ?_) (fun h193 => ?_) | refine go_if_ne (tgt := 198) dX10_part0_193 rfl (fun h193 => ?_) (fun h193 => ?_)
                ·
                  have hy41 : bA B N (skp B N (rAt (rdL B N ke ky d 0 (p + 1) n (sAt s ((skp B N (rAt s)) + 1))))) = 41 := (tk_s (c := 41) htkc hskc.2 (by decide) (by decide) (by decide)).mp h193
                  obtain ⟨v1, v2, v3, v4, v5⟩ := tk_3 htkc hskc.2 h193.1
                  have hcl : clS B N (rdL B N ke ky d 0 (p + 1) n (sAt s ((skp B N (rAt s)) + 1))) = (sAt (rdL B N ke ky d 0 (p + 1) n (sAt s ((skp B N (rAt s)) + 1))) (skp B N (rAt (rdL B N ke ky d 0 (p + 1) n (sAt s ((skp B N (rAt s)) + 1)))) + 1)) := (if_pos hnf).trans (if_pos hy41)
                  have hok3 := (gw_at hokc (v := skp B N (rAt (rdL B N ke ky d 0 (p + 1) n (sAt s ((skp B N (rAt s)) + 1)))) + 1) (by omega) (by omega)).1
                  refine go_aload_n dX10_part0_198 rfl ?_
                  refine go_dup dX10_part0_199 rfl ?_
                  refine go_getI 27 dX10_part0_200 fl_X10_298 (by first | assumption | exact Nat.le_of_ble_eq_true rfl) (by first | assumption | rfl) rfl rfl ?_
                  try simp (disch := omega) only [ua_same, ua_ne, uf_same, uf_ne]
                  refine go_iconst dX10_part0_203 rfl ?_
                  refine go_isub dX10_part0_204 ⟨by omega, by omega⟩ ?_
                  rw [h27c, show p + 1 - 1 = p by omega]
                  refine go_putI 27 dX10_part0_205 pl_X10_298 (by first | assumption | exact Nat.le_of_ble_eq_true rfl) (by first | assumption | rfl) rfl rfl ?_
                  refine go_aload_n dX10_part0_208 rfl ?_
                  refine go_vV (ci := 9) dX10_part0_209 (ct_X10_nextToken (μ := (ud μ181 87 27 p)) (by simp (disch := omega) only [ua_same, ua_ne, uf_same, uf_ne]; rw [hNc]; exact hN0) (by simp (disch := omega) only [ua_same, ua_ne, uf_same, uf_ne]; rw [hNc]; exact hN1) (by simp (disch := omega) only [ua_same, ua_ne, uf_same, uf_ne]; rw [v5]; have := hokc.1; omega) (by simp (disch := omega) only [ua_same, ua_ne, uf_same, uf_ne]; rw [v5, hNc]; omega)) ml_X10_270 mc_X10_nextToken mv_X10_nextToken rfl (by first | assumption | exact Nat.le_of_ble_eq_true rfl) (by first | assumption | rfl) rfl ⟨Nat.ble_eq_true_of_le (by dsimp only; omega), rfl⟩ ⟨Nat.le_refl _, Nat.le_refl _⟩ rfl rfl rfl (fun μ209 hc209 => ?_)
                  obtain ⟨htk209, hf209⟩ := hc209
                  have hMo2 : MSo B N (ud μ181 87 27 p) (sAt (rdL B N ke ky d 0 (p + 1) n (sAt s ((skp B N (rAt s)) + 1))) (skp B N (rAt (rdL B N ke ky d 0 (p + 1) n (sAt s ((skp B N (rAt s)) + 1)))) + 1)) p n la := by
                    refine ⟨hBc, ?_, hok3, hnf, ?_, ?_, ?_, ?_, ?_, hcdc⟩
                    · simp (disch := omega) only [ua_same, ua_ne, uf_same, uf_ne]; exact hNc
                    · simp (disch := omega) only [ua_same, ua_ne, uf_same, uf_ne]
                    · simp (disch := omega) only [ua_same, ua_ne, uf_same, uf_ne]; exact h28c
                    · simp (disch := omega) only [ua_same, ua_ne, uf_same, uf_ne]; exact h29c
                    · simp (disch := omega) only [ua_same, ua_ne, uf_same, uf_ne]; exact h31c
                    · simp (disch := omega) only [ua_same, ua_ne, uf_same, uf_ne]; exact h30c
                  obtain ⟨hMn3, hPn3⟩ := ms_nt hMo2 (by simp (disch := omega) only [ua_same, ua_ne, uf_same, uf_ne]; exact v5) htk209 hf209
                  refine go_iconst dX10_part0_212 rfl ?_
                  refine go_ri dX10_part0_213 (tyZ (by first | exact Or.inl rfl | exact Or.inr rfl | exact tv_01 | assumption)) ⟨Nat.le_refl _, Nat.le_refl _⟩ (?_)
                  rw [hrx, hcl]
                  exact ⟨fun _ => ⟨rfl, _, hMn3⟩, fun h => absurd hnf h, ((pf_k (by omega)).tr (hPn.tr hc181.2.2)).tr ((pf_k (by omega)).tr hPn3)⟩
                ·
                  refine go_iconst dX10_part0_196 rfl ?_
                  refine go_ri dX10_part0_197 (tyZ (by first | exact Or.inl rfl | exact Or.inr rfl | exact tv_01 | assumption)) ⟨Nat.le_refl _, Nat.le_refl _⟩ (?_)
                  have hn41 : ¬ bA B N (skp B N (rAt (rdL B N ke ky d 0 (p + 1) n (sAt s ((skp B N (rAt s)) + 1))))) = 41 := fun e => h193 ((tk_s (c := 41) htkc hskc.2 (by decide) (by decide) (by decide)).mpr e)
                  have hcl : clS B N (rdL B N ke ky d 0 (p + 1) n (sAt s ((skp B N (rAt s)) + 1))) = sFl (sAt (rdL B N ke ky d 0 (p + 1) n (sAt s ((skp B N (rAt s)) + 1))) (skp B N (rAt (rdL B N ke ky d 0 (p + 1) n (sAt s ((skp B N (rAt s)) + 1)))))) (skp B N (rAt (rdL B N ke ky d 0 (p + 1) n (sAt s ((skp B N (rAt s)) + 1))))) := (if_pos hnf).trans (if_neg hn41)
                  have hr0 := hokc.1
                  rw [hrx, hcl]
                  exact ⟨fun h => absurd (show skp B N (rAt (rdL B N ke ky d 0 (p + 1) n (sAt s ((skp B N (rAt s)) + 1)))) = -1000000005 from h) (by omega), fun _ => ⟨rfl, htkc.1⟩, ((pf_k (by omega)).tr (hPn.tr hc181.2.2))⟩
            ·
              refine go_iconst dX10_part0_163 rfl ?_
              refine go_ri dX10_part0_164 (tyZ (by first | exact Or.inl rfl | exact Or.inr rfl | exact tv_01 | assumption)) ⟨Nat.le_refl _, Nat.le_refl _⟩ (?_)
              have hr0 := hok.1
              have hrx : (rdL B N ke ky (d + 1) 6 p n s) = sFl (sAt s (skp B N (rAt s))) (skp B N (rAt s)) := by
                refine rp_bad hfl ?_ ?_ ?_ ?_
                · exact fun h => absurd h.2 (by omega)
                · exact fun h => absurd h.2 (by omega)
                · intro hq
                  have hlt : (skp B N (rAt s)) < N := bA_lt (B := B) (by have : 48 ≤ bA B N (skp B N (rAt s)) ∧ bA B N (skp B N (rAt s)) ≤ 57 := of_decide_eq_true hq; omega)
                  obtain ⟨_, d2, d3⟩ := htk.2.2.2.1 hlt hq
                  by_cases e1 : (skp B N (rAt s)) = ke
                  · exact Or.inl e1
                  · by_cases e2 : 4 < wEd B N (skp B N (rAt s)) - (skp B N (rAt s))
                    · exact Or.inr e2
                    · exact absurd (d3 ⟨fun t => e1 (hop.mp t), by omega⟩).1 h5
                · rintro hq ⟨hnm, hw⟩
                  have hnl := nm_lt hnm
                  have hqL : qLt B N (skp B N (rAt s)) = true := qLt_t hnl
                  have hlt : (skp B N (rAt s)) < N := bA_lt (B := B) (by omega)
                  have hbA : bA B N (skp B N (rAt s)) = B (skp B N (rAt s)) := if_pos hlt
                  obtain ⟨_, t1, t2, t3⟩ := htk.2.2.1 hlt hqL
                  rw [if_pos (by omega)] at t3
                  by_cases ht : tg
                  · have hke1 := hop.mp ht
                    have := hkn hke1
                    exact absurd hqL this
                  · exact h38 (t2 ht)
              rw [hrx]
              exact ⟨fun h => absurd (show (skp B N (rAt s)) = -1000000005 from h) (by omega), fun _ => ⟨rfl, htk.1⟩, PF.rf⟩
        ·
          have hsg : bA B N (skp B N (rAt s)) = 33 := (tk_s (c := 33) htk hsk.2 (by decide) (by decide) (by decide)).mp h90
          obtain ⟨q1, q2, q3, q4, q5⟩ := tk_3 htk hsk.2 h90.1
          have hrx : (rdL B N ke ky (d + 1) 6 p n s) = adC (rdL B N ke ky d 6 p (n + 1) (sAt s ((skp B N (rAt s)) + 1))) (-33) := rp_not hfl hsg (by omega)
          have hok1 := (gw_at hok (v := (skp B N (rAt s)) + 1) (by omega) (by omega)).1
          refine go_aload_n dX10_part0_102 rfl ?_
          refine go_dup dX10_part0_103 rfl ?_
          refine go_getI 28 dX10_part0_104 fl_X10_295 (by first | assumption | exact Nat.le_of_ble_eq_true rfl) (by first | assumption | rfl) rfl rfl ?_
          try simp (disch := omega) only [ua_same, ua_ne, uf_same, uf_ne]
          refine go_iconst dX10_part0_107 rfl ?_
          refine go_iadd dX10_part0_108 ⟨by omega, by omega⟩ ?_
          rw [h28]
          refine go_putI 28 dX10_part0_109 pl_X10_295 (by first | assumption | exact Nat.le_of_ble_eq_true rfl) (by first | assumption | rfl) rfl rfl ?_
          refine go_aload_n dX10_part0_112 rfl ?_
          refine go_vV (ci := 9) dX10_part0_113 (ct_X10_nextToken (μ := (ud μ 87 28 (n + 1))) (by simp (disch := omega) only [ua_same, ua_ne, uf_same, uf_ne]; rw [hNN]; exact hN0) (by simp (disch := omega) only [ua_same, ua_ne, uf_same, uf_ne]; rw [hNN]; exact hN1) (by simp (disch := omega) only [ua_same, ua_ne, uf_same, uf_ne]; omega) (by simp (disch := omega) only [ua_same, ua_ne, uf_same, uf_ne]; omega)) ml_X10_270 mc_X10_nextToken mv_X10_nextToken rfl (by first | assumption | exact Nat.le_of_ble_eq_true rfl) (by first | assumption | rfl) rfl ⟨Nat.ble_eq_true_of_le (by dsimp only; omega), rfl⟩ ⟨Nat.le_refl _, Nat.le_refl _⟩ rfl rfl rfl (fun μ113 hc113 => ?_)
          obtain ⟨htk113, hf113⟩ := hc113
          have hMo : MSo B N (ud μ 87 28 (n + 1)) (sAt s ((skp B N (rAt s)) + 1)) p (n + 1) la := by
            refine ⟨hB, ?_, hok1, hfl, ?_, ?_, ?_, ?_, ?_, hcd⟩
            · simp (disch := omega) only [ua_same, ua_ne, uf_same, uf_ne]; exact hNN
            · simp (disch := omega) only [ua_same, ua_ne, uf_same, uf_ne]; try exact h27
            · simp (disch := omega) only [ua_same, ua_ne, uf_same, uf_ne]; try exact h28
            · simp (disch := omega) only [ua_same, ua_ne, uf_same, uf_ne]; exact h29
            · simp (disch := omega) only [ua_same, ua_ne, uf_same, uf_ne]; exact h31
            · simp (disch := omega) only [ua_same, ua_ne, uf_same, uf_ne]; exact h30
          obtain ⟨hMn, hPn⟩ := ms_nt hMo (by simp (disch := omega) only [ua_same, ua_ne, uf_same, uf_ne]; exact q5) htk113 hf113
          refine go_aload_n dX10_part0_116 rfl ?_
          refine go_iload_n dX10_part0_117 rfl ?_
          refine go_vI (ci := 9) dX10_part0_118 (hP p (n + 1) (sAt s ((skp B N (rAt s)) + 1)) _ μ113 hp0 hp8 (by omega) (by omega) (by omega) hMn ⟨fun h => absurd h.1.2 (by simp (disch := omega) only [ua_same, ua_ne, uf_same, uf_ne]; omega), fun h => absurd h (by have := (skp_r (B := B) (p := (skp B N (rAt s)) + 1) (show (skp B N (rAt s)) + 1 ≤ N by omega)).1; show ¬ (skp B N ((skp B N (rAt s)) + 1) = ke); omega)⟩ (by show ke ≤ (skp B N (rAt s)) + 1; omega)) ml_X10_286 mc_X10_part0 mv_X10_part0 rfl (by first | assumption | exact Nat.le_of_ble_eq_true rfl) (by first | assumption | rfl) rfl ⟨Nat.ble_eq_true_of_le (by dsimp only; omega), rfl⟩ ⟨Nat.le_refl _, Nat.le_refl _⟩ rfl rfl rfl (fun x118 μ118 hc118 => ?_)
          first | refine go_bnz (tgt := 126) dX10_part0_121 rfl (fun h121 => ?_) (fun h121 => ?_) | refine go_if_ne (tgt := 126) dX10_part0_121 rfl (fun h121 => ?_) (fun h121 => ?_)
          ·
            have hnf : rFl (rdL B N ke ky d 6 p (n + 1) (sAt s ((skp B N (rAt s)) + 1))) = -1000000005 := Decidable.byContradiction (fun h => h121 (hc118.2.1 h).1)
            obtain ⟨_, tg2, hMs⟩ := hc118.1 hnf
            obtain ⟨⟨hBc, hNc, hokc, _, h27c, h28c, h29c, h31c, h30c, hcdc⟩, htkc⟩ := id hMs
            have hl0 := hokc.2.2.1
            have hg3 := gw_rd (B := B) (N := N) (ke := ke) (ky := ky) d 6 p (n + 1) (sAt s ((skp B N (rAt s)) + 1)) (by decide) hok1
            have hln : rLn (rdL B N ke ky d 6 p (n + 1) (sAt s ((skp B N (rAt s)) + 1))) < 96 := by
              obtain ⟨⟨g1, g2, g3, g4, g5, g6⟩, e2, e3, e4⟩ := hg3
              simp only [rAt_sAt, rLn_sAt] at e2 e3 e4
              have := hok.2.2.2.1
              omega
            refine go_aload_n dX10_part0_126 rfl ?_
            refine go_dup dX10_part0_127 rfl ?_
            refine go_getI 28 dX10_part0_128 fl_X10_295 (by first | assumption | exact Nat.le_of_ble_eq_true rfl) (by first | assumption | rfl) rfl rfl ?_
            try simp (disch := omega) only [ua_same, ua_ne, uf_same, uf_ne]
            refine go_iconst dX10_part0_131 rfl ?_
            refine go_isub dX10_part0_132 ⟨by omega, by omega⟩ ?_
            rw [h28c, show n + 1 - 1 = n by omega]
            refine go_putI 28 dX10_part0_133 pl_X10_295 (by first | assumption | exact Nat.le_of_ble_eq_true rfl) (by first | assumption | rfl) rfl rfl ?_
            refine go_aload_n dX10_part0_136 rfl ?_
            refine go_iconst dX10_part0_137 rfl ?_
            refine go_bipush dX10_part0_138 rfl (by decide) ?_
            refine go_vV (ci := 9) dX10_part0_140 (ct_X10_step (μ := ud μ118 87 28 n) _ _ ⟨by simp (disch := omega) only [ua_same, ua_ne, uf_same, uf_ne]; rw [h30c]; omega, by simp (disch := omega) only [ua_same, ua_ne, uf_same, uf_ne]; rw [h30c]; omega⟩ ⟨by simp (disch := omega) only [ua_same, ua_ne, uf_same, uf_ne]; rw [h29c]; omega, by simp (disch := omega) only [ua_same, ua_ne, uf_same, uf_ne]; rw [h29c]; omega⟩) ml_X10_273 mc_X10_step mv_X10_step rfl (by first | assumption | exact Nat.le_of_ble_eq_true rfl) (by first | assumption | rfl) rfl ⟨Nat.ble_eq_true_of_le (by dsimp only; omega), rfl⟩ ⟨Nat.le_refl _, Nat.le_refl _⟩ rfl rfl rfl (fun μ140 hc140 => ?_)
            have e30 : (ud μ118 87 28 n) 87 30 = la := by simp (disch := omega) only [ua_same, ua_ne, uf_same, uf_ne]; exact h30c
            have e29 : (ud μ118 87 28 n) 87 29 = rLn (rdL B N ke ky d 6 p (n + 1) (sAt s ((skp B N (rAt s)) + 1))) := by simp (disch := omega) only [ua_same, ua_ne, uf_same, uf_ne]; exact h29c
            rw [e30, e29] at hc140
            subst hc140
            refine go_iconst dX10_part0_143 rfl ?_
            refine go_ri dX10_part0_144 (tyZ (by first | exact Or.inl rfl | exact Or.inr rfl | exact tv_01 | assumption)) ⟨Nat.le_refl _, Nat.le_refl _⟩ (?_)
            have hgs := gw_s1 (c := -33) hok hsk.1 q1 hg3
            have hMn3 : MS B N (ud (ud (ud (ud μ118 87 28 n) 88 (la + 2 * rLn (rdL B N ke ky d 6 p (n + 1) (sAt s ((skp B N (rAt s)) + 1)))) 2) 88 (la + 2 * rLn (rdL B N ke ky d 6 p (n + 1) (sAt s ((skp B N (rAt s)) + 1))) + 1) 33) 87 29 (rLn (rdL B N ke ky d 6 p (n + 1) (sAt s ((skp B N (rAt s)) + 1))) + 1)) (adC (rdL B N ke ky d 6 p (n + 1) (sAt s ((skp B N (rAt s)) + 1))) (-33)) tg2 p n la := by
              refine ⟨⟨hBc, ?_, hgs.1, hnf, ?_, ?_, ?_, ?_, ?_, ?_⟩, ?_⟩
              · simp (disch := omega) only [ua_same, ua_ne, uf_same, uf_ne]; exact hNc
              · simp (disch := omega) only [ua_same, ua_ne, uf_same, uf_ne]; exact h27c
              · simp (disch := omega) only [ua_same, ua_ne, uf_same, uf_ne]
              · simp (disch := omega) only [ua_same, ua_ne, uf_same, uf_ne]; rfl
              · simp (disch := omega) only [ua_same, ua_ne, uf_same, uf_ne]; exact h31c
              · simp (disch := omega) only [ua_same, ua_ne, uf_same, uf_ne]; exact h30c
              · have e88 : (ud (ud (ud (ud μ118 87 28 n) 88 (la + 2 * rLn (rdL B N ke ky d 6 p (n + 1) (sAt s ((skp B N (rAt s)) + 1)))) 2) 88 (la + 2 * rLn (rdL B N ke ky d 6 p (n + 1) (sAt s ((skp B N (rAt s)) + 1))) + 1) 33) 87 29 (rLn (rdL B N ke ky d 6 p (n + 1) (sAt s ((skp B N (rAt s)) + 1))) + 1)) 88 = uf (uf (μ118 88) (la + 2 * rLn (rdL B N ke ky d 6 p (n + 1) (sAt s ((skp B N (rAt s)) + 1)))) 2) (la + 2 * rLn (rdL B N ke ky d 6 p (n + 1) (sAt s ((skp B N (rAt s)) + 1))) + 1) 33 := by simp (disch := omega) only [ua_same, ua_ne, uf_same, uf_ne]
                rw [e88]; exact cd_ad hcdc hokc.2.2.1 rfl (Or.inr (Or.inr ⟨rfl, Or.inl rfl⟩))
              · have e87 : (ud (ud (ud (ud μ118 87 28 n) 88 (la + 2 * rLn (rdL B N ke ky d 6 p (n + 1) (sAt s ((skp B N (rAt s)) + 1)))) 2) 88 (la + 2 * rLn (rdL B N ke ky d 6 p (n + 1) (sAt s ((skp B N (rAt s)) + 1))) + 1) 33) 87 29 (rLn (rdL B N ke ky d 6 p (n + 1) (sAt s ((skp B N (rAt s)) + 1))) + 1)) 87 = uf (uf (μ118 87) 28 n) 29 (rLn (rdL B N ke ky d 6 p (n + 1) (sAt s ((skp B N (rAt s)) + 1))) + 1) := by simp (disch := omega) only [ua_same, ua_ne, uf_same, uf_ne]
                rw [e87]; exact tok_k (by omega) (tok_k (by omega) htkc)
            rw [hrx]
            exact ⟨fun _ => ⟨rfl, tg2, hMn3⟩, fun h => absurd hnf h, ((pf_k (by omega)).tr (hPn.tr hc118.2.2)).tr ((pf_k (by omega)).tr (pf_st (by omega) (by omega)))⟩
          ·
            refine go_iconst dX10_part0_124 rfl ?_
            refine go_ri dX10_part0_125 (tyZ (by first | exact Or.inl rfl | exact Or.inr rfl | exact tv_01 | assumption)) ⟨Nat.le_refl _, Nat.le_refl _⟩ (?_)
            have hnf : rFl (rdL B N ke ky d 6 p (n + 1) (sAt s ((skp B N (rAt s)) + 1))) ≠ -1000000005 := fun h => by have := (hc118.1 h).1; omega
            rw [hrx]
            exact ⟨fun h => absurd h hnf, fun _ => ⟨rfl, (hc118.2.1 hnf).2⟩, ((pf_k (by omega)).tr (hPn.tr hc118.2.2))⟩
    ·
      refine go_aload_n dX10_part0_41 rfl ?_
      refine go_getI 26 dX10_part0_42 fl_X10_245 (by first | assumption | exact Nat.le_of_ble_eq_true rfl) (by first | assumption | rfl) rfl rfl ?_
      try simp (disch := omega) only [ua_same, ua_ne, uf_same, uf_ne]
      first | refine go_bz (tgt := 84) dX10_part0_45 rfl (fun h45 => ?_) (fun h45 => ?_) | refine go_if_eq (tgt := 84) dX10_part0_45 rfl (fun h45 => ?_) (fun h45 => ?_)
      ·
        refine go_aload_n dX10_part0_84 rfl ?_
        refine go_bipush dX10_part0_85 rfl (by decide) ?_
        refine go_vI (ci := 9) dX10_part0_87 (ct_X10_isSign _) ml_X10_267 mc_X10_isSign mv_X10_isSign rfl (by first | assumption | exact Nat.le_of_ble_eq_true rfl) (by first | assumption | rfl) rfl ⟨Nat.ble_eq_true_of_le (by dsimp only; omega), rfl⟩ ⟨Nat.le_refl _, Nat.le_refl _⟩ rfl rfl rfl (fun x87 μ87 hc87 => ?_)
        obtain ⟨rfl, hm87⟩ := hc87
        rw [hm87]
        first | refine go_bz (tgt := 145) dX10_part0_90 rfl (fun h90 => ?_) (fun h90 => ?_) | refine go_if_eq (tgt := 145) dX10_part0_90 rfl (fun h90 => ?_) (fun h90 => ?_)
        ·
          refine go_aload_n dX10_part0_145 rfl ?_
          refine go_bipush dX10_part0_146 rfl (by decide) ?_
          refine go_vI (ci := 9) dX10_part0_148 (ct_X10_isSign _) ml_X10_267 mc_X10_isSign mv_X10_isSign rfl (by first | assumption | exact Nat.le_of_ble_eq_true rfl) (by first | assumption | rfl) rfl ⟨Nat.ble_eq_true_of_le (by dsimp only; omega), rfl⟩ ⟨Nat.le_refl _, Nat.le_refl _⟩ rfl rfl rfl (fun x148 μ148 hc148 => ?_)
          obtain ⟨rfl, hm148⟩ := hc148
          rw [hm148]
          first | refine go_bz (tgt := 163) dX10_part0_151 rfl (fun h151 => ?_) (fun h151 => ?_) | refine go_if_eq (tgt := 163) dX10_part0_151 rfl (fun h151 => ?_) (fun h151 => ?_)
          ·
            refine go_iconst dX10_part0_163 rfl ?_
            refine go_ri dX10_part0_164 (tyZ (by first | exact Or.inl rfl | exact Or.inr rfl | exact tv_01 | assumption)) ⟨Nat.le_refl _, Nat.le_refl _⟩ (?_)
            have hr0 := hok.1
            have hrx : (rdL B N ke ky (d + 1) 6 p n s) = sFl (sAt s (skp B N (rAt s))) (skp B N (rAt s)) := by
              refine rp_bad hfl ?_ ?_ ?_ ?_
              · exact fun h => h151 ((tk_s (c := 40) htk hsk.2 (by decide) (by decide) (by decide)).mpr h.1)
              · exact fun h => h90 ((tk_s (c := 33) htk hsk.2 (by decide) (by decide) (by decide)).mpr h.1)
              · intro hq
                have hlt : (skp B N (rAt s)) < N := bA_lt (B := B) (by have : 48 ≤ bA B N (skp B N (rAt s)) ∧ bA B N (skp B N (rAt s)) ≤ 57 := of_decide_eq_true hq; omega)
                obtain ⟨_, d2, d3⟩ := htk.2.2.2.1 hlt hq
                by_cases e1 : (skp B N (rAt s)) = ke
                · exact Or.inl e1
                · by_cases e2 : 4 < wEd B N (skp B N (rAt s)) - (skp B N (rAt s))
                  · exact Or.inr e2
                  · exact absurd (d3 ⟨fun t => e1 (hop.mp t), by omega⟩).1 h5
              · rintro hq ⟨hnm, hw⟩
                have hnl := nm_lt hnm
                have hqL : qLt B N (skp B N (rAt s)) = true := qLt_t hnl
                have hlt : (skp B N (rAt s)) < N := bA_lt (B := B) (by omega)
                have hbA : bA B N (skp B N (rAt s)) = B (skp B N (rAt s)) := if_pos hlt
                obtain ⟨_, t1, t2, t3⟩ := htk.2.2.1 hlt hqL
                rw [if_pos (by omega)] at t3
                omega
            rw [hrx]
            exact ⟨fun h => absurd (show (skp B N (rAt s)) = -1000000005 from h) (by omega), fun _ => ⟨rfl, htk.1⟩, PF.rf⟩
          ·
            refine go_aload_n dX10_part0_154 rfl ?_
            refine go_getI 27 dX10_part0_155 fl_X10_298 (by first | assumption | exact Nat.le_of_ble_eq_true rfl) (by first | assumption | rfl) rfl rfl ?_
            try simp (disch := omega) only [ua_same, ua_ne, uf_same, uf_ne]
            refine go_bipush dX10_part0_158 rfl (by decide) ?_
            refine go_icmp_ne (tgt := 165) dX10_part0_160 rfl (fun h160 => ?_) (fun h160 => ?_)
            ·
              have hsg : bA B N (skp B N (rAt s)) = 40 := (tk_s (c := 40) htk hsk.2 (by decide) (by decide) (by decide)).mp h151
              obtain ⟨q1, q2, q3, q4, q5⟩ := tk_3 htk hsk.2 h151.1
              have hp7 : p < 8 := by omega
              have hrx : (rdL B N ke ky (d + 1) 6 p n s) = clS B N (rdL B N ke ky d 0 (p + 1) n (sAt s ((skp B N (rAt s)) + 1))) := rp_par hfl hsg hp7
              have hok1 := (gw_at hok (v := (skp B N (rAt s)) + 1) (by omega) (by omega)).1
              refine go_aload_n dX10_part0_165 rfl ?_
              refine go_dup dX10_part0_166 rfl ?_
              refine go_getI 27 dX10_part0_167 fl_X10_298 (by first | assumption | exact Nat.le_of_ble_eq_true rfl) (by first | assumption | rfl) rfl rfl ?_
              try simp (disch := omega) only [ua_same, ua_ne, uf_same, uf_ne]
              refine go_iconst dX10_part0_170 rfl ?_
              refine go_iadd dX10_part0_171 ⟨by omega, by omega⟩ ?_
              rw [h27]
              refine go_putI 27 dX10_part0_172 pl_X10_298 (by first | assumption | exact Nat.le_of_ble_eq_true rfl) (by first | assumption | rfl) rfl rfl ?_
              refine go_aload_n dX10_part0_175 rfl ?_
              refine go_vV (ci := 9) dX10_part0_176 (ct_X10_nextToken (μ := (ud μ 87 27 (p + 1))) (by simp (disch := omega) only [ua_same, ua_ne, uf_same, uf_ne]; rw [hNN]; exact hN0) (by simp (disch := omega) only [ua_same, ua_ne, uf_same, uf_ne]; rw [hNN]; exact hN1) (by simp (disch := omega) only [ua_same, ua_ne, uf_same, uf_ne]; omega) (by simp (disch := omega) only [ua_same, ua_ne, uf_same, uf_ne]; omega)) ml_X10_270 mc_X10_nextToken mv_X10_nextToken rfl (by first | assumption | exact Nat.le_of_ble_eq_true rfl) (by first | assumption | rfl) rfl ⟨Nat.ble_eq_true_of_le (by dsimp only; omega), rfl⟩ ⟨Nat.le_refl _, Nat.le_refl _⟩ rfl rfl rfl (fun μ176 hc176 => ?_)
              obtain ⟨htk176, hf176⟩ := hc176
              have hMo : MSo B N (ud μ 87 27 (p + 1)) (sAt s ((skp B N (rAt s)) + 1)) (p + 1) n la := by
                refine ⟨hB, ?_, hok1, hfl, ?_, ?_, ?_, ?_, ?_, hcd⟩
                · simp (disch := omega) only [ua_same, ua_ne, uf_same, uf_ne]; exact hNN
                · simp (disch := omega) only [ua_same, ua_ne, uf_same, uf_ne]; try exact h27
                · simp (disch := omega) only [ua_same, ua_ne, uf_same, uf_ne]; try exact h28
                · simp (disch := omega) only [ua_same, ua_ne, uf_same, uf_ne]; exact h29
                · simp (disch := omega) only [ua_same, ua_ne, uf_same, uf_ne]; exact h31
                · simp (disch := omega) only [ua_same, ua_ne, uf_same, uf_ne]; exact h30
              obtain ⟨hMn, hPn⟩ := ms_nt hMo (by simp (disch := omega) only [ua_same, ua_ne, uf_same, uf_ne]; exact q5) htk176 hf176
              refine go_aload_n dX10_part0_179 rfl ?_
              refine go_iload_n dX10_part0_180 rfl ?_
              refine go_vI (ci := 9) dX10_part0_181 (hE (p + 1) n (sAt s ((skp B N (rAt s)) + 1)) _ μ176 (by omega) (by omega) hn0 hn8 (by omega) hMn ⟨fun h => absurd h.1.2 (by simp (disch := omega) only [ua_same, ua_ne, uf_same, uf_ne]; omega), fun h => absurd h (by have := (skp_r (B := B) (p := (skp B N (rAt s)) + 1) (show (skp B N (rAt s)) + 1 ≤ N by omega)).1; show ¬ (skp B N ((skp B N (rAt s)) + 1) = ke); omega)⟩ (by show ke ≤ (skp B N (rAt s)) + 1; omega)) ml_X10_301 mc_X10_either mv_X10_either rfl (by first | assumption | exact Nat.le_of_ble_eq_true rfl) (by first | assumption | rfl) rfl ⟨Nat.ble_eq_true_of_le (by dsimp only; omega), rfl⟩ ⟨Nat.le_refl _, Nat.le_refl _⟩ rfl rfl rfl (fun x181 μ181 hc181 => ?_)
              first | refine go_bz (tgt := 196) dX10_part0_184 rfl (fun h184 => ?_) (fun h184 => ?_) | refine go_if_eq (tgt := 196) dX10_part0_184 rfl (fun h184 => ?_) (fun h184 => ?_)
              ·
                refine go_iconst dX10_part0_196 rfl ?_
                refine go_ri dX10_part0_197 (tyZ (by first | exact Or.inl rfl | exact Or.inr rfl | exact tv_01 | assumption)) ⟨Nat.le_refl _, Nat.le_refl _⟩ (?_)
                have hnf : rFl (rdL B N ke ky d 0 (p + 1) n (sAt s ((skp B N (rAt s)) + 1))) ≠ -1000000005 := fun h => by have := (hc181.1 h).1; omega
                have hcl : clS B N (rdL B N ke ky d 0 (p + 1) n (sAt s ((skp B N (rAt s)) + 1))) = (rdL B N ke ky d 0 (p + 1) n (sAt s ((skp B N (rAt s)) + 1))) := if_neg hnf
                rw [hrx, hcl]
                exact ⟨fun h => absurd h hnf, fun _ => ⟨rfl, (hc181.2.1 hnf).2⟩, ((pf_k (by omega)).tr (hPn.tr hc181.2.2))⟩
              ·
                have hnf : rFl (rdL B N ke ky d 0 (p + 1) n (sAt s ((skp B N (rAt s)) + 1))) = -1000000005 := Decidable.byContradiction (fun h => h184 (hc181.2.1 h).1)
                obtain ⟨_, tg2, hMs⟩ := hc181.1 hnf
                obtain ⟨⟨hBc, hNc, hokc, _, h27c, h28c, h29c, h31c, h30c, hcdc⟩, htkc⟩ := id hMs
                have hskc := skp_r (B := B) hokc.2.1
                refine go_aload_n dX10_part0_187 rfl ?_
                refine go_bipush dX10_part0_188 rfl (by decide) ?_
                refine go_vI (ci := 9) dX10_part0_190 (ct_X10_isSign _) ml_X10_267 mc_X10_isSign mv_X10_isSign rfl (by first | assumption | exact Nat.le_of_ble_eq_true rfl) (by first | assumption | rfl) rfl ⟨Nat.ble_eq_true_of_le (by dsimp only; omega), rfl⟩ ⟨Nat.le_refl _, Nat.le_refl _⟩ rfl rfl rfl (fun x190 μ190 hc190 => ?_)
                obtain ⟨rfl, hm190⟩ := hc190
                rw [hm190]
                first | refine go_bnz (tgt := 198) dX10_part0_193 rfl (fun h193 => ?_) (fun h193 => ?_) | refine go_if_ne (tgt := 198) dX10_part0_193 rfl (fun h193 => ?_) (fun h193 => ?_)
                ·
                  have hy41 : bA B N (skp B N (rAt (rdL B N ke ky d 0 (p + 1) n (sAt s ((skp B N (rAt s)) + 1))))) = 41 := (tk_s (c := 41) htkc hskc.2 (by decide) (by decide) (by decide)).mp h193
                  obtain ⟨v1, v2, v3, v4, v5⟩ := tk_3 htkc hskc.2 h193.1
                  have hcl : clS B N (rdL B N ke ky d 0 (p + 1) n (sAt s ((skp B N (rAt s)) + 1))) = (sAt (rdL B N ke ky d 0 (p + 1) n (sAt s ((skp B N (rAt s)) + 1))) (skp B N (rAt (rdL B N ke ky d 0 (p + 1) n (sAt s ((skp B N (rAt s)) + 1)))) + 1)) := (if_pos hnf).trans (if_pos hy41)
                  have hok3 := (gw_at hokc (v := skp B N (rAt (rdL B N ke ky d 0 (p + 1) n (sAt s ((skp B N (rAt s)) + 1)))) + 1) (by omega) (by omega)).1
                  refine go_aload_n dX10_part0_198 rfl ?_
                  refine go_dup dX10_part0_199 rfl ?_
                  refine go_getI 27 dX10_part0_200 fl_X10_298 (by first | assumption | exact Nat.le_of_ble_eq_true rfl) (by first | assumption | rfl) rfl rfl ?_
                  try simp (disch := omega) only [ua_same, ua_ne, uf_same, uf_ne]
                  refine go_iconst dX10_part0_203 rfl ?_
                  refine go_isub dX10_part0_204 ⟨by omega, by omega⟩ ?_
                  rw [h27c, show p + 1 - 1 = p by omega]
                  refine go_putI 27 dX10_part0_205 pl_X10_298 (by first | assumption | exact Nat.le_of_ble_eq_true rfl) (by first | assumption | rfl) rfl rfl ?_
                  refine go_aload_n dX10_part0_208 rfl ?_
                  refine go_vV (ci := 9) dX10_part0_209 (ct_X10_nextToken (μ := (ud μ181 87 27 p)) (by simp (disch := omega) only [ua_same, ua_ne, uf_same, uf_ne]; rw [hNc]; exact hN0) (by simp (disch := omega) only [ua_same, ua_ne, uf_same, uf_ne]; rw [hNc]; exact hN1) (by simp (disch := omega) only [ua_same, ua_ne, uf_same, uf_ne]; rw [v5]; have := hokc.1; omega) (by simp (disch := omega) only [ua_same, ua_ne, uf_same, uf_ne]; rw [v5, hNc]; omega)) ml_X10_270 mc_X10_nextToken mv_X10_nextToken rfl (by first | assumption | exact Nat.le_of_ble_eq_true rfl) (by first | assumption | rfl) rfl ⟨Nat.ble_eq_true_of_le (by dsimp only; omega), rfl⟩ ⟨Nat.le_refl _, Nat.le_refl _⟩ rfl rfl rfl (fun μ209 hc209 => ?_)
                  obtain ⟨htk209, hf209⟩ := hc209
                  have hMo2 : MSo B N (ud μ181 87 27 p) (sAt (rdL B N ke ky d 0 (p + 1) n (sAt s ((skp B N (rAt s)) + 1))) (skp B N (rAt (rdL B N ke ky d 0 (p + 1) n (sAt s ((skp B N (rAt s)) + 1)))) + 1)) p n la := by
                    refine ⟨hBc, ?_, hok3, hnf, ?_, ?_, ?_, ?_, ?_, hcdc⟩
                    · simp (disch := omega) only [ua_same, ua_ne, uf_same, uf_ne]; exact hNc
                    · simp (disch := omega) only [ua_same, ua_ne, uf_same, uf_ne]
                    · simp (disch := omega) only [ua_same, ua_ne, uf_same, uf_ne]; exact h28c
                    · simp (disch := omega) only [ua_same, ua_ne, uf_same, uf_ne]; exact h29c
                    · simp (disch := omega) only [ua_same, ua_ne, uf_same, uf_ne]; exact h31c
                    · simp (disch := omega) only [ua_same, ua_ne, uf_same, uf_ne]; exact h30c
                  obtain ⟨hMn3, hPn3⟩ := ms_nt hMo2 (by simp (disch := omega) only [ua_same, ua_ne, uf_same, uf_ne]; exact v5) htk209 hf209
                  refine go_iconst dX10_part0_212 rfl ?_
                  refine go_ri dX10_part0_213 (tyZ (by first | exact Or.inl rfl | exact Or.inr rfl | exact tv_01 | assumption)) ⟨Nat.le_refl _, Nat.le_refl _⟩ (?_)
                  rw [hrx, hcl]
                  exact ⟨fun _ => ⟨rfl, _, hMn3⟩, fun h => absurd hnf h, ((pf_k (by omega)).tr (hPn.tr hc181.2.2)).tr ((pf_k (by omega)).tr hPn3)⟩
                ·
                  refine go_iconst dX10_part0_196 rfl ?_
                  refine go_ri dX10_part0_197 (tyZ (by first | exact Or.inl rfl | exact Or.inr rfl | exact tv_01 | assumption)) ⟨Nat.le_refl _, Nat.le_refl _⟩ (?_)
                  have hn41 : ¬ bA B N (skp B N (rAt (rdL B N ke ky d 0 (p + 1) n (sAt s ((skp B N (rAt s)) + 1))))) = 41 := fun e => h193 ((tk_s (c := 41) htkc hskc.2 (by decide) (by decide) (by decide)).mpr e)
                  have hcl : clS B N (rdL B N ke ky d 0 (p + 1) n (sAt s ((skp B N (rAt s)) + 1))) = sFl (sAt (rdL B N ke ky d 0 (p + 1) n (sAt s ((skp B N (rAt s)) + 1))) (skp B N (rAt (rdL B N ke ky d 0 (p + 1) n (sAt s ((skp B N (rAt s)) + 1)))))) (skp B N (rAt (rdL B N ke ky d 0 (p + 1) n (sAt s ((skp B N (rAt s)) + 1))))) := (if_pos hnf).trans (if_neg hn41)
                  have hr0 := hokc.1
                  rw [hrx, hcl]
                  exact ⟨fun h => absurd (show skp B N (rAt (rdL B N ke ky d 0 (p + 1) n (sAt s ((skp B N (rAt s)) + 1)))) = -1000000005 from h) (by omega), fun _ => ⟨rfl, htkc.1⟩, ((pf_k (by omega)).tr (hPn.tr hc181.2.2))⟩
            ·
              refine go_iconst dX10_part0_163 rfl ?_
              refine go_ri dX10_part0_164 (tyZ (by first | exact Or.inl rfl | exact Or.inr rfl | exact tv_01 | assumption)) ⟨Nat.le_refl _, Nat.le_refl _⟩ (?_)
              have hr0 := hok.1
              have hrx : (rdL B N ke ky (d + 1) 6 p n s) = sFl (sAt s (skp B N (rAt s))) (skp B N (rAt s)) := by
                refine rp_bad hfl ?_ ?_ ?_ ?_
                · exact fun h => absurd h.2 (by omega)
                · exact fun h => h90 ((tk_s (c := 33) htk hsk.2 (by decide) (by decide) (by decide)).mpr h.1)
                · intro hq
                  have hlt : (skp B N (rAt s)) < N := bA_lt (B := B) (by have : 48 ≤ bA B N (skp B N (rAt s)) ∧ bA B N (skp B N (rAt s)) ≤ 57 := of_decide_eq_true hq; omega)
                  obtain ⟨_, d2, d3⟩ := htk.2.2.2.1 hlt hq
                  by_cases e1 : (skp B N (rAt s)) = ke
                  · exact Or.inl e1
                  · by_cases e2 : 4 < wEd B N (skp B N (rAt s)) - (skp B N (rAt s))
                    · exact Or.inr e2
                    · exact absurd (d3 ⟨fun t => e1 (hop.mp t), by omega⟩).1 h5
                · rintro hq ⟨hnm, hw⟩
                  have hnl := nm_lt hnm
                  have hqL : qLt B N (skp B N (rAt s)) = true := qLt_t hnl
                  have hlt : (skp B N (rAt s)) < N := bA_lt (B := B) (by omega)
                  have hbA : bA B N (skp B N (rAt s)) = B (skp B N (rAt s)) := if_pos hlt
                  obtain ⟨_, t1, t2, t3⟩ := htk.2.2.1 hlt hqL
                  rw [if_pos (by omega)] at t3
                  omega
              rw [hrx]
              exact ⟨fun h => absurd (show (skp B N (rAt s)) = -1000000005 from h) (by omega), fun _ => ⟨rfl, htk.1⟩, PF.rf⟩
        ·
          refine go_aload_n dX10_part0_93 rfl ?_
          refine go_getI 28 dX10_part0_94 fl_X10_295 (by first | assumption | exact Nat.le_of_ble_eq_true rfl) (by first | assumption | rfl) rfl rfl ?_
          try simp (disch := omega) only [ua_same, ua_ne, uf_same, uf_ne]
          refine go_bipush dX10_part0_97 rfl (by decide) ?_
          refine go_icmp_ge (tgt := 145) dX10_part0_99 rfl (fun h99 => ?_) (fun h99 => ?_)
          ·
            refine go_aload_n dX10_part0_145 rfl ?_
            refine go_bipush dX10_part0_146 rfl (by decide) ?_
            refine go_vI (ci := 9) dX10_part0_148 (ct_X10_isSign _) ml_X10_267 mc_X10_isSign mv_X10_isSign rfl (by first | assumption | exact Nat.le_of_ble_eq_true rfl) (by first | assumption | rfl) rfl ⟨Nat.ble_eq_true_of_le (by dsimp only; omega), rfl⟩ ⟨Nat.le_refl _, Nat.le_refl _⟩ rfl rfl rfl (fun x148 μ148 hc148 => ?_)
            obtain ⟨rfl, hm148⟩ := hc148
            rw [hm148]
            first | refine go_bz (tgt := 163) dX10_part0_151 rfl (fun h151 => ?_) (fun h151 => ?_) | refine go_if_eq (tgt := 163) dX10_part0_151 rfl (fun h151 => ?_) (fun h151 => ?_)
            ·
              refine go_iconst dX10_part0_163 rfl ?_
              refine go_ri dX10_part0_164 (tyZ (by first | exact Or.inl rfl | exact Or.inr rfl | exact tv_01 | assumption)) ⟨Nat.le_refl _, Nat.le_refl _⟩ (?_)
              have hr0 := hok.1
              have hrx : (rdL B N ke ky (d + 1) 6 p n s) = sFl (sAt s (skp B N (rAt s))) (skp B N (rAt s)) := by
                refine rp_bad hfl ?_ ?_ ?_ ?_
                · exact fun h => h151 ((tk_s (c := 40) htk hsk.2 (by decide) (by decide) (by decide)).mpr h.1)
                · exact fun h => absurd h.2 (by omega)
                · intro hq
                  have hlt : (skp B N (rAt s)) < N := bA_lt (B := B) (by have : 48 ≤ bA B N (skp B N (rAt s)) ∧ bA B N (skp B N (rAt s)) ≤ 57 := of_decide_eq_true hq; omega)
                  obtain ⟨_, d2, d3⟩ := htk.2.2.2.1 hlt hq
                  by_cases e1 : (skp B N (rAt s)) = ke
                  · exact Or.inl e1
                  · by_cases e2 : 4 < wEd B N (skp B N (rAt s)) - (skp B N (rAt s))
                    · exact Or.inr e2
                    · exact absurd (d3 ⟨fun t => e1 (hop.mp t), by omega⟩).1 h5
                · rintro hq ⟨hnm, hw⟩
                  have hnl := nm_lt hnm
                  have hqL : qLt B N (skp B N (rAt s)) = true := qLt_t hnl
                  have hlt : (skp B N (rAt s)) < N := bA_lt (B := B) (by omega)
                  have hbA : bA B N (skp B N (rAt s)) = B (skp B N (rAt s)) := if_pos hlt
                  obtain ⟨_, t1, t2, t3⟩ := htk.2.2.1 hlt hqL
                  rw [if_pos (by omega)] at t3
                  omega
              rw [hrx]
              exact ⟨fun h => absurd (show (skp B N (rAt s)) = -1000000005 from h) (by omega), fun _ => ⟨rfl, htk.1⟩, PF.rf⟩
            ·
              refine go_aload_n dX10_part0_154 rfl ?_
              refine go_getI 27 dX10_part0_155 fl_X10_298 (by first | assumption | exact Nat.le_of_ble_eq_true rfl) (by first | assumption | rfl) rfl rfl ?_
              try simp (disch := omega) only [ua_same, ua_ne, uf_same, uf_ne]
              refine go_bipush dX10_part0_158 rfl (by decide) ?_
              refine go_icmp_ne (tgt := 165) dX10_part0_160 rfl (fun h160 => ?_) (fun h160 => ?_)
              ·
                have hsg : bA B N (skp B N (rAt s)) = 40 := (tk_s (c := 40) htk hsk.2 (by decide) (by decide) (by decide)).mp h151
                obtain ⟨q1, q2, q3, q4, q5⟩ := tk_3 htk hsk.2 h151.1
                have hp7 : p < 8 := by omega
                have hrx : (rdL B N ke ky (d + 1) 6 p n s) = clS B N (rdL B N ke ky d 0 (p + 1) n (sAt s ((skp B N (rAt s)) + 1))) := rp_par hfl hsg hp7
                have hok1 := (gw_at hok (v := (skp B N (rAt s)) + 1) (by omega) (by omega)).1
                refine go_aload_n dX10_part0_165 rfl ?_
                refine go_dup dX10_part0_166 rfl ?_
                refine go_getI 27 dX10_part0_167 fl_X10_298 (by first | assumption | exact Nat.le_of_ble_eq_true rfl) (by first | assumption | rfl) rfl rfl ?_
                try simp (disch := omega) only [ua_same, ua_ne, uf_same, uf_ne]
                refine go_iconst dX10_part0_170 rfl ?_
                refine go_iadd dX10_part0_171 ⟨by omega, by omega⟩ ?_
                rw [h27]
                refine go_putI 27 dX10_part0_172 pl_X10_298 (by first | assumption | exact Nat.le_of_ble_eq_true rfl) (by first | assumption | rfl) rfl rfl ?_
                refine go_aload_n dX10_part0_175 rfl ?_
                refine go_vV (ci := 9) dX10_part0_176 (ct_X10_nextToken (μ := (ud μ 87 27 (p + 1))) (by simp (disch := omega) only [ua_same, ua_ne, uf_same, uf_ne]; rw [hNN]; exact hN0) (by simp (disch := omega) only [ua_same, ua_ne, uf_same, uf_ne]; rw [hNN]; exact hN1) (by simp (disch := omega) only [ua_same, ua_ne, uf_same, uf_ne]; omega) (by simp (disch := omega) only [ua_same, ua_ne, uf_same, uf_ne]; omega)) ml_X10_270 mc_X10_nextToken mv_X10_nextToken rfl (by first | assumption | exact Nat.le_of_ble_eq_true rfl) (by first | assumption | rfl) rfl ⟨Nat.ble_eq_true_of_le (by dsimp only; omega), rfl⟩ ⟨Nat.le_refl _, Nat.le_refl _⟩ rfl rfl rfl (fun μ176 hc176 => ?_)
                obtain ⟨htk176, hf176⟩ := hc176
                have hMo : MSo B N (ud μ 87 27 (p + 1)) (sAt s ((skp B N (rAt s)) + 1)) (p + 1) n la := by
                  refine ⟨hB, ?_, hok1, hfl, ?_, ?_, ?_, ?_, ?_, hcd⟩
                  · simp (disch := omega) only [ua_same, ua_ne, uf_same, uf_ne]; exact hNN
                  · simp (disch := omega) only [ua_same, ua_ne, uf_same, uf_ne]; try exact h27
                  · simp (disch := omega) only [ua_same, ua_ne, uf_same, uf_ne]; try exact h28
                  · simp (disch := omega) only [ua_same, ua_ne, uf_same, uf_ne]; exact h29
                  · simp (disch := omega) only [ua_same, ua_ne, uf_same, uf_ne]; exact h31
                  · simp (disch := omega) only [ua_same, ua_ne, uf_same, uf_ne]; exact h30
                obtain ⟨hMn, hPn⟩ := ms_nt hMo (by simp (disch := omega) only [ua_same, ua_ne, uf_same, uf_ne]; exact q5) htk176 hf176
                refine go_aload_n dX10_part0_179 rfl ?_
                refine go_iload_n dX10_part0_180 rfl ?_
                refine go_vI (ci := 9) dX10_part0_181 (hE (p + 1) n (sAt s ((skp B N (rAt s)) + 1)) _ μ176 (by omega) (by omega) hn0 hn8 (by omega) hMn ⟨fun h => absurd h.1.2 (by simp (disch := omega) only [ua_same, ua_ne, uf_same, uf_ne]; omega), fun h => absurd h (by have := (skp_r (B := B) (p := (skp B N (rAt s)) + 1) (show (skp B N (rAt s)) + 1 ≤ N by omega)).1; show ¬ (skp B N ((skp B N (rAt s)) + 1) = ke); omega)⟩ (by show ke ≤ (skp B N (rAt s)) + 1; omega)) ml_X10_301 mc_X10_either mv_X10_either rfl (by first | assumption | exact Nat.le_of_ble_eq_true rfl) (by first | assumption | rfl) rfl ⟨Nat.ble_eq_true_of_le (by dsimp only; omega), rfl⟩ ⟨Nat.le_refl _, Nat.le_refl _⟩ rfl rfl rfl (fun x181 μ181 hc181 => ?_)
                first | refine go_bz (tgt := 196) dX10_part0_184 rfl (fun h184 => ?_) (fun h184 => ?_) | refine go_if_eq (tgt := 196) dX10_part0_184 rfl (fun h184 => ?_) (fun h184 => ?_)
                ·
                  refine go_iconst dX10_part0_196 rfl ?_
                  refine go_ri dX10_part0_197 (tyZ (by first | exact Or.inl rfl | exact Or.inr rfl | exact tv_01 | assumption)) ⟨Nat.le_refl _, Nat.le_refl _⟩ (?_)
                  have hnf : rFl (rdL B N ke ky d 0 (p + 1) n (sAt s ((skp B N (rAt s)) + 1))) ≠ -1000000005 := fun h => by have := (hc181.1 h).1; omega
                  have hcl : clS B N (rdL B N ke ky d 0 (p + 1) n (sAt s ((skp B N (rAt s)) + 1))) = (rdL B N ke ky d 0 (p + 1) n (sAt s ((skp B N (rAt s)) + 1))) := if_neg hnf
                  rw [hrx, hcl]
                  exact ⟨fun h => absurd h hnf, fun _ => ⟨rfl, (hc181.2.1 hnf).2⟩, ((pf_k (by omega)).tr (hPn.tr hc181.2.2))⟩
                ·
                  have hnf : rFl (rdL B N ke ky d 0 (p + 1) n (sAt s ((skp B N (rAt s)) + 1))) = -1000000005 := Decidable.byContradiction (fun h => h184 (hc181.2.1 h).1)
                  obtain ⟨_, tg2, hMs⟩ := hc181.1 hnf
                  obtain ⟨⟨hBc, hNc, hokc, _, h27c, h28c, h29c, h31c, h30c, hcdc⟩, htkc⟩ := id hMs
                  have hskc := skp_r (B := B) hokc.2.1
                  refine go_aload_n dX10_part0_187 rfl ?_
                  refine go_bipush dX10_part0_188 rfl (by decide) ?_
                  refine go_vI (ci := 9) dX10_part0_190 (ct_X10_isSign _) ml_X10_267 mc_X10_isSign mv_X10_isSign rfl (by first | assumption | exact Nat.le_of_ble_eq_true rfl) (by first | assumption | rfl) rfl ⟨Nat.ble_eq_true_of_le (by dsimp only; omega), rfl⟩ ⟨Nat.le_refl _, Nat.le_refl _⟩ rfl rfl rfl (fun x190 μ190 hc190 => ?_)
                  obtain ⟨rfl, hm190⟩ := hc190
                  rw [hm190]
                  first | refine go_bnz (tgt := 198) dX10_part0_193 rfl (fun h193 => ?_) (fun h193 => ?_) | refine go_if_ne (tgt := 198) dX10_part0_193 rfl (fun h193 => ?_) (fun h193 => ?_)
                  ·
                    have hy41 : bA B N (skp B N (rAt (rdL B N ke ky d 0 (p + 1) n (sAt s ((skp B N (rAt s)) + 1))))) = 41 := (tk_s (c := 41) htkc hskc.2 (by decide) (by decide) (by decide)).mp h193
                    obtain ⟨v1, v2, v3, v4, v5⟩ := tk_3 htkc hskc.2 h193.1
                    have hcl : clS B N (rdL B N ke ky d 0 (p + 1) n (sAt s ((skp B N (rAt s)) + 1))) = (sAt (rdL B N ke ky d 0 (p + 1) n (sAt s ((skp B N (rAt s)) + 1))) (skp B N (rAt (rdL B N ke ky d 0 (p + 1) n (sAt s ((skp B N (rAt s)) + 1)))) + 1)) := (if_pos hnf).trans (if_pos hy41)
                    have hok3 := (gw_at hokc (v := skp B N (rAt (rdL B N ke ky d 0 (p + 1) n (sAt s ((skp B N (rAt s)) + 1)))) + 1) (by omega) (by omega)).1
                    refine go_aload_n dX10_part0_198 rfl ?_
                    refine go_dup dX10_part0_199 rfl ?_
                    refine go_getI 27 dX10_part0_200 fl_X10_298 (by first | assumption | exact Nat.le_of_ble_eq_true rfl) (by first | assumption | rfl) rfl rfl ?_
                    try simp (disch := omega) only [ua_same, ua_ne, uf_same, uf_ne]
                    refine go_iconst dX10_part0_203 rfl ?_
                    refine go_isub dX10_part0_204 ⟨by omega, by omega⟩ ?_
                    rw [h27c, show p + 1 - 1 = p by omega]
                    refine go_putI 27 dX10_part0_205 pl_X10_298 (by first | assumption | exact Nat.le_of_ble_eq_true rfl) (by first | assumption | rfl) rfl rfl ?_
                    refine go_aload_n dX10_part0_208 rfl ?_
                    refine go_vV (ci := 9) dX10_part0_209 (ct_X10_nextToken (μ := (ud μ181 87 27 p)) (by simp (disch := omega) only [ua_same, ua_ne, uf_same, uf_ne]; rw [hNc]; exact hN0) (by simp (disch := omega) only [ua_same, ua_ne, uf_same, uf_ne]; rw [hNc]; exact hN1) (by simp (disch := omega) only [ua_same, ua_ne, uf_same, uf_ne]; rw [v5]; have := hokc.1; omega) (by simp (disch := omega) only [ua_same, ua_ne, uf_same, uf_ne]; rw [v5, hNc]; omega)) ml_X10_270 mc_X10_nextToken mv_X10_nextToken rfl (by first | assumption | exact Nat.le_of_ble_eq_true rfl) (by first | assumption | rfl) rfl ⟨Nat.ble_eq_true_of_le (by dsimp only; omega), rfl⟩ ⟨Nat.le_refl _, Nat.le_refl _⟩ rfl rfl rfl (fun μ209 hc209 => ?_)
                    obtain ⟨htk209, hf209⟩ := hc209
                    have hMo2 : MSo B N (ud μ181 87 27 p) (sAt (rdL B N ke ky d 0 (p + 1) n (sAt s ((skp B N (rAt s)) + 1))) (skp B N (rAt (rdL B N ke ky d 0 (p + 1) n (sAt s ((skp B N (rAt s)) + 1)))) + 1)) p n la := by
                      refine ⟨hBc, ?_, hok3, hnf, ?_, ?_, ?_, ?_, ?_, hcdc⟩
                      · simp (disch := omega) only [ua_same, ua_ne, uf_same, uf_ne]; exact hNc
                      · simp (disch := omega) only [ua_same, ua_ne, uf_same, uf_ne]
                      · simp (disch := omega) only [ua_same, ua_ne, uf_same, uf_ne]; exact h28c
                      · simp (disch := omega) only [ua_same, ua_ne, uf_same, uf_ne]; exact h29c
                      · simp (disch := omega) only [ua_same, ua_ne, uf_same, uf_ne]; exact h31c
                      · simp (disch := omega) only [ua_same, ua_ne, uf_same, uf_ne]; exact h30c
                    obtain ⟨hMn3, hPn3⟩ := ms_nt hMo2 (by simp (disch := omega) only [ua_same, ua_ne, uf_same, uf_ne]; exact v5) htk209 hf209
                    refine go_iconst dX10_part0_212 rfl ?_
                    refine go_ri dX10_part0_213 (tyZ (by first | exact Or.inl rfl | exact Or.inr rfl | exact tv_01 | assumption)) ⟨Nat.le_refl _, Nat.le_refl _⟩ (?_)
                    rw [hrx, hcl]
                    exact ⟨fun _ => ⟨rfl, _, hMn3⟩, fun h => absurd hnf h, ((pf_k (by omega)).tr (hPn.tr hc181.2.2)).tr ((pf_k (by omega)).tr hPn3)⟩
                  ·
                    refine go_iconst dX10_part0_196 rfl ?_
                    refine go_ri dX10_part0_197 (tyZ (by first | exact Or.inl rfl | exact Or.inr rfl | exact tv_01 | assumption)) ⟨Nat.le_refl _, Nat.le_refl _⟩ (?_)
                    have hn41 : ¬ bA B N (skp B N (rAt (rdL B N ke ky d 0 (p + 1) n (sAt s ((skp B N (rAt s)) + 1))))) = 41 := fun e => h193 ((tk_s (c := 41) htkc hskc.2 (by decide) (by decide) (by decide)).mpr e)
                    have hcl : clS B N (rdL B N ke ky d 0 (p + 1) n (sAt s ((skp B N (rAt s)) + 1))) = sFl (sAt (rdL B N ke ky d 0 (p + 1) n (sAt s ((skp B N (rAt s)) + 1))) (skp B N (rAt (rdL B N ke ky d 0 (p + 1) n (sAt s ((skp B N (rAt s)) + 1)))))) (skp B N (rAt (rdL B N ke ky d 0 (p + 1) n (sAt s ((skp B N (rAt s)) + 1))))) := (if_pos hnf).trans (if_neg hn41)
                    have hr0 := hokc.1
                    rw [hrx, hcl]
                    exact ⟨fun h => absurd (show skp B N (rAt (rdL B N ke ky d 0 (p + 1) n (sAt s ((skp B N (rAt s)) + 1)))) = -1000000005 from h) (by omega), fun _ => ⟨rfl, htkc.1⟩, ((pf_k (by omega)).tr (hPn.tr hc181.2.2))⟩
              ·
                refine go_iconst dX10_part0_163 rfl ?_
                refine go_ri dX10_part0_164 (tyZ (by first | exact Or.inl rfl | exact Or.inr rfl | exact tv_01 | assumption)) ⟨Nat.le_refl _, Nat.le_refl _⟩ (?_)
                have hr0 := hok.1
                have hrx : (rdL B N ke ky (d + 1) 6 p n s) = sFl (sAt s (skp B N (rAt s))) (skp B N (rAt s)) := by
                  refine rp_bad hfl ?_ ?_ ?_ ?_
                  · exact fun h => absurd h.2 (by omega)
                  · exact fun h => absurd h.2 (by omega)
                  · intro hq
                    have hlt : (skp B N (rAt s)) < N := bA_lt (B := B) (by have : 48 ≤ bA B N (skp B N (rAt s)) ∧ bA B N (skp B N (rAt s)) ≤ 57 := of_decide_eq_true hq; omega)
                    obtain ⟨_, d2, d3⟩ := htk.2.2.2.1 hlt hq
                    by_cases e1 : (skp B N (rAt s)) = ke
                    · exact Or.inl e1
                    · by_cases e2 : 4 < wEd B N (skp B N (rAt s)) - (skp B N (rAt s))
                      · exact Or.inr e2
                      · exact absurd (d3 ⟨fun t => e1 (hop.mp t), by omega⟩).1 h5
                  · rintro hq ⟨hnm, hw⟩
                    have hnl := nm_lt hnm
                    have hqL : qLt B N (skp B N (rAt s)) = true := qLt_t hnl
                    have hlt : (skp B N (rAt s)) < N := bA_lt (B := B) (by omega)
                    have hbA : bA B N (skp B N (rAt s)) = B (skp B N (rAt s)) := if_pos hlt
                    obtain ⟨_, t1, t2, t3⟩ := htk.2.2.1 hlt hqL
                    rw [if_pos (by omega)] at t3
                    omega
                rw [hrx]
                exact ⟨fun h => absurd (show (skp B N (rAt s)) = -1000000005 from h) (by omega), fun _ => ⟨rfl, htk.1⟩, PF.rf⟩
          ·
            have hsg : bA B N (skp B N (rAt s)) = 33 := (tk_s (c := 33) htk hsk.2 (by decide) (by decide) (by decide)).mp h90
            obtain ⟨q1, q2, q3, q4, q5⟩ := tk_3 htk hsk.2 h90.1
            have hrx : (rdL B N ke ky (d + 1) 6 p n s) = adC (rdL B N ke ky d 6 p (n + 1) (sAt s ((skp B N (rAt s)) + 1))) (-33) := rp_not hfl hsg (by omega)
            have hok1 := (gw_at hok (v := (skp B N (rAt s)) + 1) (by omega) (by omega)).1
            refine go_aload_n dX10_part0_102 rfl ?_
            refine go_dup dX10_part0_103 rfl ?_
            refine go_getI 28 dX10_part0_104 fl_X10_295 (by first | assumption | exact Nat.le_of_ble_eq_true rfl) (by first | assumption | rfl) rfl rfl ?_
            try simp (disch := omega) only [ua_same, ua_ne, uf_same, uf_ne]
            refine go_iconst dX10_part0_107 rfl ?_
            refine go_iadd dX10_part0_108 ⟨by omega, by omega⟩ ?_
            rw [h28]
            refine go_putI 28 dX10_part0_109 pl_X10_295 (by first | assumption | exact Nat.le_of_ble_eq_true rfl) (by first | assumption | rfl) rfl rfl ?_
            refine go_aload_n dX10_part0_112 rfl ?_
            refine go_vV (ci := 9) dX10_part0_113 (ct_X10_nextToken (μ := (ud μ 87 28 (n + 1))) (by simp (disch := omega) only [ua_same, ua_ne, uf_same, uf_ne]; rw [hNN]; exact hN0) (by simp (disch := omega) only [ua_same, ua_ne, uf_same, uf_ne]; rw [hNN]; exact hN1) (by simp (disch := omega) only [ua_same, ua_ne, uf_same, uf_ne]; omega) (by simp (disch := omega) only [ua_same, ua_ne, uf_same, uf_ne]; omega)) ml_X10_270 mc_X10_nextToken mv_X10_nextToken rfl (by first | assumption | exact Nat.le_of_ble_eq_true rfl) (by first | assumption | rfl) rfl ⟨Nat.ble_eq_true_of_le (by dsimp only; omega), rfl⟩ ⟨Nat.le_refl _, Nat.le_refl _⟩ rfl rfl rfl (fun μ113 hc113 => ?_)
            obtain ⟨htk113, hf113⟩ := hc113
            have hMo : MSo B N (ud μ 87 28 (n + 1)) (sAt s ((skp B N (rAt s)) + 1)) p (n + 1) la := by
              refine ⟨hB, ?_, hok1, hfl, ?_, ?_, ?_, ?_, ?_, hcd⟩
              · simp (disch := omega) only [ua_same, ua_ne, uf_same, uf_ne]; exact hNN
              · simp (disch := omega) only [ua_same, ua_ne, uf_same, uf_ne]; try exact h27
              · simp (disch := omega) only [ua_same, ua_ne, uf_same, uf_ne]; try exact h28
              · simp (disch := omega) only [ua_same, ua_ne, uf_same, uf_ne]; exact h29
              · simp (disch := omega) only [ua_same, ua_ne, uf_same, uf_ne]; exact h31
              · simp (disch := omega) only [ua_same, ua_ne, uf_same, uf_ne]; exact h30
            obtain ⟨hMn, hPn⟩ := ms_nt hMo (by simp (disch := omega) only [ua_same, ua_ne, uf_same, uf_ne]; exact q5) htk113 hf113
            refine go_aload_n dX10_part0_116 rfl ?_
            refine go_iload_n dX10_part0_117 rfl ?_
            refine go_vI (ci := 9) dX10_part0_118 (hP p (n + 1) (sAt s ((skp B N (rAt s)) + 1)) _ μ113 hp0 hp8 (by omega) (by omega) (by omega) hMn ⟨fun h => absurd h.1.2 (by simp (disch := omega) only [ua_same, ua_ne, uf_same, uf_ne]; omega), fun h => absurd h (by have := (skp_r (B := B) (p := (skp B N (rAt s)) + 1) (show (skp B N (rAt s)) + 1 ≤ N by omega)).1; show ¬ (skp B N ((skp B N (rAt s)) + 1) = ke); omega)⟩ (by show ke ≤ (skp B N (rAt s)) + 1; omega)) ml_X10_286 mc_X10_part0 mv_X10_part0 rfl (by first | assumption | exact Nat.le_of_ble_eq_true rfl) (by first | assumption | rfl) rfl ⟨Nat.ble_eq_true_of_le (by dsimp only; omega), rfl⟩ ⟨Nat.le_refl _, Nat.le_refl _⟩ rfl rfl rfl (fun x118 μ118 hc118 => ?_)
            first | refine go_bnz (tgt := 126) dX10_part0_121 rfl (fun h121 => ?_) (fun h121 => ?_) | refine go_if_ne (tgt := 126) dX10_part0_121 rfl (fun h121 => ?_) (fun h121 => ?_)
            ·
              have hnf : rFl (rdL B N ke ky d 6 p (n + 1) (sAt s ((skp B N (rAt s)) + 1))) = -1000000005 := Decidable.byContradiction (fun h => h121 (hc118.2.1 h).1)
              obtain ⟨_, tg2, hMs⟩ := hc118.1 hnf
              obtain ⟨⟨hBc, hNc, hokc, _, h27c, h28c, h29c, h31c, h30c, hcdc⟩, htkc⟩ := id hMs
              have hl0 := hokc.2.2.1
              have hg3 := gw_rd (B := B) (N := N) (ke := ke) (ky := ky) d 6 p (n + 1) (sAt s ((skp B N (rAt s)) + 1)) (by decide) hok1
              have hln : rLn (rdL B N ke ky d 6 p (n + 1) (sAt s ((skp B N (rAt s)) + 1))) < 96 := by
                obtain ⟨⟨g1, g2, g3, g4, g5, g6⟩, e2, e3, e4⟩ := hg3
                simp only [rAt_sAt, rLn_sAt] at e2 e3 e4
                have := hok.2.2.2.1
                omega
              refine go_aload_n dX10_part0_126 rfl ?_
              refine go_dup dX10_part0_127 rfl ?_
              refine go_getI 28 dX10_part0_128 fl_X10_295 (by first | assumption | exact Nat.le_of_ble_eq_true rfl) (by first | assumption | rfl) rfl rfl ?_
              try simp (disch := omega) only [ua_same, ua_ne, uf_same, uf_ne]
              refine go_iconst dX10_part0_131 rfl ?_
              refine go_isub dX10_part0_132 ⟨by omega, by omega⟩ ?_
              rw [h28c, show n + 1 - 1 = n by omega]
              refine go_putI 28 dX10_part0_133 pl_X10_295 (by first | assumption | exact Nat.le_of_ble_eq_true rfl) (by first | assumption | rfl) rfl rfl ?_
              refine go_aload_n dX10_part0_136 rfl ?_
              refine go_iconst dX10_part0_137 rfl ?_
              refine go_bipush dX10_part0_138 rfl (by decide) ?_
              refine go_vV (ci := 9) dX10_part0_140 (ct_X10_step (μ := ud μ118 87 28 n) _ _ ⟨by simp (disch := omega) only [ua_same, ua_ne, uf_same, uf_ne]; rw [h30c]; omega, by simp (disch := omega) only [ua_same, ua_ne, uf_same, uf_ne]; rw [h30c]; omega⟩ ⟨by simp (disch := omega) only [ua_same, ua_ne, uf_same, uf_ne]; rw [h29c]; omega, by simp (disch := omega) only [ua_same, ua_ne, uf_same, uf_ne]; rw [h29c]; omega⟩) ml_X10_273 mc_X10_step mv_X10_step rfl (by first | assumption | exact Nat.le_of_ble_eq_true rfl) (by first | assumption | rfl) rfl ⟨Nat.ble_eq_true_of_le (by dsimp only; omega), rfl⟩ ⟨Nat.le_refl _, Nat.le_refl _⟩ rfl rfl rfl (fun μ140 hc140 => ?_)
              have e30 : (ud μ118 87 28 n) 87 30 = la := by simp (disch := omega) only [ua_same, ua_ne, uf_same, uf_ne]; exact h30c
              have e29 : (ud μ118 87 28 n) 87 29 = rLn (rdL B N ke ky d 6 p (n + 1) (sAt s ((skp B N (rAt s)) + 1))) := by simp (disch := omega) only [ua_same, ua_ne, uf_same, uf_ne]; exact h29c
              rw [e30, e29] at hc140
              subst hc140
              refine go_iconst dX10_part0_143 rfl ?_
              refine go_ri dX10_part0_144 (tyZ (by first | exact Or.inl rfl | exact Or.inr rfl | exact tv_01 | assumption)) ⟨Nat.le_refl _, Nat.le_refl _⟩ (?_)
              have hgs := gw_s1 (c := -33) hok hsk.1 q1 hg3
              have hMn3 : MS B N (ud (ud (ud (ud μ118 87 28 n) 88 (la + 2 * rLn (rdL B N ke ky d 6 p (n + 1) (sAt s ((skp B N (rAt s)) + 1)))) 2) 88 (la + 2 * rLn (rdL B N ke ky d 6 p (n + 1) (sAt s ((skp B N (rAt s)) + 1))) + 1) 33) 87 29 (rLn (rdL B N ke ky d 6 p (n + 1) (sAt s ((skp B N (rAt s)) + 1))) + 1)) (adC (rdL B N ke ky d 6 p (n + 1) (sAt s ((skp B N (rAt s)) + 1))) (-33)) tg2 p n la := by
                refine ⟨⟨hBc, ?_, hgs.1, hnf, ?_, ?_, ?_, ?_, ?_, ?_⟩, ?_⟩
                · simp (disch := omega) only [ua_same, ua_ne, uf_same, uf_ne]; exact hNc
                · simp (disch := omega) only [ua_same, ua_ne, uf_same, uf_ne]; exact h27c
                · simp (disch := omega) only [ua_same, ua_ne, uf_same, uf_ne]
                · simp (disch := omega) only [ua_same, ua_ne, uf_same, uf_ne]; rfl
                · simp (disch := omega) only [ua_same, ua_ne, uf_same, uf_ne]; exact h31c
                · simp (disch := omega) only [ua_same, ua_ne, uf_same, uf_ne]; exact h30c
                · have e88 : (ud (ud (ud (ud μ118 87 28 n) 88 (la + 2 * rLn (rdL B N ke ky d 6 p (n + 1) (sAt s ((skp B N (rAt s)) + 1)))) 2) 88 (la + 2 * rLn (rdL B N ke ky d 6 p (n + 1) (sAt s ((skp B N (rAt s)) + 1))) + 1) 33) 87 29 (rLn (rdL B N ke ky d 6 p (n + 1) (sAt s ((skp B N (rAt s)) + 1))) + 1)) 88 = uf (uf (μ118 88) (la + 2 * rLn (rdL B N ke ky d 6 p (n + 1) (sAt s ((skp B N (rAt s)) + 1)))) 2) (la + 2 * rLn (rdL B N ke ky d 6 p (n + 1) (sAt s ((skp B N (rAt s)) + 1))) + 1) 33 := by simp (disch := omega) only [ua_same, ua_ne, uf_same, uf_ne]
                  rw [e88]; exact cd_ad hcdc hokc.2.2.1 rfl (Or.inr (Or.inr ⟨rfl, Or.inl rfl⟩))
                · have e87 : (ud (ud (ud (ud μ118 87 28 n) 88 (la + 2 * rLn (rdL B N ke ky d 6 p (n + 1) (sAt s ((skp B N (rAt s)) + 1)))) 2) 88 (la + 2 * rLn (rdL B N ke ky d 6 p (n + 1) (sAt s ((skp B N (rAt s)) + 1))) + 1) 33) 87 29 (rLn (rdL B N ke ky d 6 p (n + 1) (sAt s ((skp B N (rAt s)) + 1))) + 1)) 87 = uf (uf (μ118 87) 28 n) 29 (rLn (rdL B N ke ky d 6 p (n + 1) (sAt s ((skp B N (rAt s)) + 1))) + 1) := by simp (disch := omega) only [ua_same, ua_ne, uf_same, uf_ne]
                  rw [e87]; exact tok_k (by omega) (tok_k (by omega) htkc)
              rw [hrx]
              exact ⟨fun _ => ⟨rfl, tg2, hMn3⟩, fun h => absurd hnf h, ((pf_k (by omega)).tr (hPn.tr hc118.2.2)).tr ((pf_k (by omega)).tr (pf_st (by omega) (by omega)))⟩
            ·
              refine go_iconst dX10_part0_124 rfl ?_
              refine go_ri dX10_part0_125 (tyZ (by first | exact Or.inl rfl | exact Or.inr rfl | exact tv_01 | assumption)) ⟨Nat.le_refl _, Nat.le_refl _⟩ (?_)
              have hnf : rFl (rdL B N ke ky d 6 p (n + 1) (sAt s ((skp B N (rAt s)) + 1))) ≠ -1000000005 := fun h => by have := (hc118.1 h).1; omega
              rw [hrx]
              exact ⟨fun h => absurd h hnf, fun _ => ⟨rfl, (hc118.2.1 hnf).2⟩, ((pf_k (by omega)).tr (hPn.tr hc118.2.2))⟩
      ·
        refine go_iload_n dX10_part0_48 rfl ?_
        refine go_aload_n dX10_part0_49 rfl ?_
        refine go_getI 26 dX10_part0_50 fl_X10_245 (by first | assumption | exact Nat.le_of_ble_eq_true rfl) (by first | assumption | rfl) rfl rfl ?_
        try simp (disch := omega) only [ua_same, ua_ne, uf_same, uf_ne]
        refine go_sI dX10_part0_53 (ct_X10_isName _ _ (by omega) (by omega)) ml_X10_292 mc_X10_isName ms_X10_isName ⟨Nat.ble_eq_true_of_le (by dsimp only; omega), rfl⟩ ⟨Nat.le_refl _, Nat.le_refl _⟩ rfl rfl rfl (fun x53 μ53 hc53 => ?_)
        obtain ⟨rfl, hm53⟩ := hc53
        rw [hm53]
        first | refine go_bz (tgt := 84) dX10_part0_56 rfl (fun h56 => ?_) (fun h56 => ?_) | refine go_if_eq (tgt := 84) dX10_part0_56 rfl (fun h56 => ?_) (fun h56 => ?_)
        ·
          refine go_aload_n dX10_part0_84 rfl ?_
          refine go_bipush dX10_part0_85 rfl (by decide) ?_
          refine go_vI (ci := 9) dX10_part0_87 (ct_X10_isSign _) ml_X10_267 mc_X10_isSign mv_X10_isSign rfl (by first | assumption | exact Nat.le_of_ble_eq_true rfl) (by first | assumption | rfl) rfl ⟨Nat.ble_eq_true_of_le (by dsimp only; omega), rfl⟩ ⟨Nat.le_refl _, Nat.le_refl _⟩ rfl rfl rfl (fun x87 μ87 hc87 => ?_)
          obtain ⟨rfl, hm87⟩ := hc87
          rw [hm87]
          first | refine go_bz (tgt := 145) dX10_part0_90 rfl (fun h90 => ?_) (fun h90 => ?_) | refine go_if_eq (tgt := 145) dX10_part0_90 rfl (fun h90 => ?_) (fun h90 => ?_)
          ·
            refine go_aload_n dX10_part0_145 rfl ?_
            refine go_bipush dX10_part0_146 rfl (by decide) ?_
            refine go_vI (ci := 9) dX10_part0_148 (ct_X10_isSign _) ml_X10_267 mc_X10_isSign mv_X10_isSign rfl (by first | assumption | exact Nat.le_of_ble_eq_true rfl) (by first | assumption | rfl) rfl ⟨Nat.ble_eq_true_of_le (by dsimp only; omega), rfl⟩ ⟨Nat.le_refl _, Nat.le_refl _⟩ rfl rfl rfl (fun x148 μ148 hc148 => ?_)
            obtain ⟨rfl, hm148⟩ := hc148
            rw [hm148]
            first | refine go_bz (tgt := 163) dX10_part0_151 rfl (fun h151 => ?_) (fun h151 => ?_) | refine go_if_eq (tgt := 163) dX10_part0_151 rfl (fun h151 => ?_) (fun h151 => ?_)
            ·
              refine go_iconst dX10_part0_163 rfl ?_
              refine go_ri dX10_part0_164 (tyZ (by first | exact Or.inl rfl | exact Or.inr rfl | exact tv_01 | assumption)) ⟨Nat.le_refl _, Nat.le_refl _⟩ (?_)
              have hr0 := hok.1
              have hrx : (rdL B N ke ky (d + 1) 6 p n s) = sFl (sAt s (skp B N (rAt s))) (skp B N (rAt s)) := by
                refine rp_bad hfl ?_ ?_ ?_ ?_
                · exact fun h => h151 ((tk_s (c := 40) htk hsk.2 (by decide) (by decide) (by decide)).mpr h.1)
                · exact fun h => h90 ((tk_s (c := 33) htk hsk.2 (by decide) (by decide) (by decide)).mpr h.1)
                · intro hq
                  have hlt : (skp B N (rAt s)) < N := bA_lt (B := B) (by have : 48 ≤ bA B N (skp B N (rAt s)) ∧ bA B N (skp B N (rAt s)) ≤ 57 := of_decide_eq_true hq; omega)
                  obtain ⟨_, d2, d3⟩ := htk.2.2.2.1 hlt hq
                  by_cases e1 : (skp B N (rAt s)) = ke
                  · exact Or.inl e1
                  · by_cases e2 : 4 < wEd B N (skp B N (rAt s)) - (skp B N (rAt s))
                    · exact Or.inr e2
                    · exact absurd (d3 ⟨fun t => e1 (hop.mp t), by omega⟩).1 h5
                · rintro hq ⟨hnm, hw⟩
                  have hnl := nm_lt hnm
                  have hqL : qLt B N (skp B N (rAt s)) = true := qLt_t hnl
                  have hlt : (skp B N (rAt s)) < N := bA_lt (B := B) (by omega)
                  have hbA : bA B N (skp B N (rAt s)) = B (skp B N (rAt s)) := if_pos hlt
                  obtain ⟨_, t1, t2, t3⟩ := htk.2.2.1 hlt hqL
                  rw [if_pos (by omega)] at t3
                  rw [← hbA] at t3
                  exact h56 (by rw [t3]; exact hnm)
              rw [hrx]
              exact ⟨fun h => absurd (show (skp B N (rAt s)) = -1000000005 from h) (by omega), fun _ => ⟨rfl, htk.1⟩, PF.rf⟩
            ·
              refine go_aload_n dX10_part0_154 rfl ?_
              refine go_getI 27 dX10_part0_155 fl_X10_298 (by first | assumption | exact Nat.le_of_ble_eq_true rfl) (by first | assumption | rfl) rfl rfl ?_
              try simp (disch := omega) only [ua_same, ua_ne, uf_same, uf_ne]
              refine go_bipush dX10_part0_158 rfl (by decide) ?_
              refine go_icmp_ne (tgt := 165) dX10_part0_160 rfl (fun h160 => ?_) (fun h160 => ?_)
              ·
                have hsg : bA B N (skp B N (rAt s)) = 40 := (tk_s (c := 40) htk hsk.2 (by decide) (by decide) (by decide)).mp h151
                obtain ⟨q1, q2, q3, q4, q5⟩ := tk_3 htk hsk.2 h151.1
                have hp7 : p < 8 := by omega
                have hrx : (rdL B N ke ky (d + 1) 6 p n s) = clS B N (rdL B N ke ky d 0 (p + 1) n (sAt s ((skp B N (rAt s)) + 1))) := rp_par hfl hsg hp7
                have hok1 := (gw_at hok (v := (skp B N (rAt s)) + 1) (by omega) (by omega)).1
                refine go_aload_n dX10_part0_165 rfl ?_
                refine go_dup dX10_part0_166 rfl ?_
                refine go_getI 27 dX10_part0_167 fl_X10_298 (by first | assumption | exact Nat.le_of_ble_eq_true rfl) (by first | assumption | rfl) rfl rfl ?_
                try simp (disch := omega) only [ua_same, ua_ne, uf_same, uf_ne]
                refine go_iconst dX10_part0_170 rfl ?_
                refine go_iadd dX10_part0_171 ⟨by omega, by omega⟩ ?_
                rw [h27]
                refine go_putI 27 dX10_part0_172 pl_X10_298 (by first | assumption | exact Nat.le_of_ble_eq_true rfl) (by first | assumption | rfl) rfl rfl ?_
                refine go_aload_n dX10_part0_175 rfl ?_
                refine go_vV (ci := 9) dX10_part0_176 (ct_X10_nextToken (μ := (ud μ 87 27 (p + 1))) (by simp (disch := omega) only [ua_same, ua_ne, uf_same, uf_ne]; rw [hNN]; exact hN0) (by simp (disch := omega) only [ua_same, ua_ne, uf_same, uf_ne]; rw [hNN]; exact hN1) (by simp (disch := omega) only [ua_same, ua_ne, uf_same, uf_ne]; omega) (by simp (disch := omega) only [ua_same, ua_ne, uf_same, uf_ne]; omega)) ml_X10_270 mc_X10_nextToken mv_X10_nextToken rfl (by first | assumption | exact Nat.le_of_ble_eq_true rfl) (by first | assumption | rfl) rfl ⟨Nat.ble_eq_true_of_le (by dsimp only; omega), rfl⟩ ⟨Nat.le_refl _, Nat.le_refl _⟩ rfl rfl rfl (fun μ176 hc176 => ?_)
                obtain ⟨htk176, hf176⟩ := hc176
                have hMo : MSo B N (ud μ 87 27 (p + 1)) (sAt s ((skp B N (rAt s)) + 1)) (p + 1) n la := by
                  refine ⟨hB, ?_, hok1, hfl, ?_, ?_, ?_, ?_, ?_, hcd⟩
                  · simp (disch := omega) only [ua_same, ua_ne, uf_same, uf_ne]; exact hNN
                  · simp (disch := omega) only [ua_same, ua_ne, uf_same, uf_ne]; try exact h27
                  · simp (disch := omega) only [ua_same, ua_ne, uf_same, uf_ne]; try exact h28
                  · simp (disch := omega) only [ua_same, ua_ne, uf_same, uf_ne]; exact h29
                  · simp (disch := omega) only [ua_same, ua_ne, uf_same, uf_ne]; exact h31
                  · simp (disch := omega) only [ua_same, ua_ne, uf_same, uf_ne]; exact h30
                obtain ⟨hMn, hPn⟩ := ms_nt hMo (by simp (disch := omega) only [ua_same, ua_ne, uf_same, uf_ne]; exact q5) htk176 hf176
                refine go_aload_n dX10_part0_179 rfl ?_
                refine go_iload_n dX10_part0_180 rfl ?_
                refine go_vI (ci := 9) dX10_part0_181 (hE (p + 1) n (sAt s ((skp B N (rAt s)) + 1)) _ μ176 (by omega) (by omega) hn0 hn8 (by omega) hMn ⟨fun h => absurd h.1.2 (by simp (disch := omega) only [ua_same, ua_ne, uf_same, uf_ne]; omega), fun h => absurd h (by have := (skp_r (B := B) (p := (skp B N (rAt s)) + 1) (show (skp B N (rAt s)) + 1 ≤ N by omega)).1; show ¬ (skp B N ((skp B N (rAt s)) + 1) = ke); omega)⟩ (by show ke ≤ (skp B N (rAt s)) + 1; omega)) ml_X10_301 mc_X10_either mv_X10_either rfl (by first | assumption | exact Nat.le_of_ble_eq_true rfl) (by first | assumption | rfl) rfl ⟨Nat.ble_eq_true_of_le (by dsimp only; omega), rfl⟩ ⟨Nat.le_refl _, Nat.le_refl _⟩ rfl rfl rfl (fun x181 μ181 hc181 => ?_)
                first | refine go_bz (tgt := 196) dX10_part0_184 rfl (fun h184 => ?_) (fun h184 => ?_) | refine go_if_eq (tgt := 196) dX10_part0_184 rfl (fun h184 => ?_) (fun h184 => ?_)
                ·
                  refine go_iconst dX10_part0_196 rfl ?_
                  refine go_ri dX10_part0_197 (tyZ (by first | exact Or.inl rfl | exact Or.inr rfl | exact tv_01 | assumption)) ⟨Nat.le_refl _, Nat.le_refl _⟩ (?_)
                  have hnf : rFl (rdL B N ke ky d 0 (p + 1) n (sAt s ((skp B N (rAt s)) + 1))) ≠ -1000000005 := fun h => by have := (hc181.1 h).1; omega
                  have hcl : clS B N (rdL B N ke ky d 0 (p + 1) n (sAt s ((skp B N (rAt s)) + 1))) = (rdL B N ke ky d 0 (p + 1) n (sAt s ((skp B N (rAt s)) + 1))) := if_neg hnf
                  rw [hrx, hcl]
                  exact ⟨fun h => absurd h hnf, fun _ => ⟨rfl, (hc181.2.1 hnf).2⟩, ((pf_k (by omega)).tr (hPn.tr hc181.2.2))⟩
                ·
                  have hnf : rFl (rdL B N ke ky d 0 (p + 1) n (sAt s ((skp B N (rAt s)) + 1))) = -1000000005 := Decidable.byContradiction (fun h => h184 (hc181.2.1 h).1)
                  obtain ⟨_, tg2, hMs⟩ := hc181.1 hnf
                  obtain ⟨⟨hBc, hNc, hokc, _, h27c, h28c, h29c, h31c, h30c, hcdc⟩, htkc⟩ := id hMs
                  have hskc := skp_r (B := B) hokc.2.1
                  refine go_aload_n dX10_part0_187 rfl ?_
                  refine go_bipush dX10_part0_188 rfl (by decide) ?_
                  refine go_vI (ci := 9) dX10_part0_190 (ct_X10_isSign _) ml_X10_267 mc_X10_isSign mv_X10_isSign rfl (by first | assumption | exact Nat.le_of_ble_eq_true rfl) (by first | assumption | rfl) rfl ⟨Nat.ble_eq_true_of_le (by dsimp only; omega), rfl⟩ ⟨Nat.le_refl _, Nat.le_refl _⟩ rfl rfl rfl (fun x190 μ190 hc190 => ?_)
                  obtain ⟨rfl, hm190⟩ := hc190
                  rw [hm190]
                  first | refine go_bnz (tgt := 198) dX10_part0_193 rfl (fun h193 => ?_) (fun h193 => ?_) | refine go_if_ne (tgt := 198) dX10_part0_193 rfl (fun h193 => ?_) (fun h193 => ?_)
                  ·
                    have hy41 : bA B N (skp B N (rAt (rdL B N ke ky d 0 (p + 1) n (sAt s ((skp B N (rAt s)) + 1))))) = 41 := (tk_s (c := 41) htkc hskc.2 (by decide) (by decide) (by decide)).mp h193
                    obtain ⟨v1, v2, v3, v4, v5⟩ := tk_3 htkc hskc.2 h193.1
                    have hcl : clS B N (rdL B N ke ky d 0 (p + 1) n (sAt s ((skp B N (rAt s)) + 1))) = (sAt (rdL B N ke ky d 0 (p + 1) n (sAt s ((skp B N (rAt s)) + 1))) (skp B N (rAt (rdL B N ke ky d 0 (p + 1) n (sAt s ((skp B N (rAt s)) + 1)))) + 1)) := (if_pos hnf).trans (if_pos hy41)
                    have hok3 := (gw_at hokc (v := skp B N (rAt (rdL B N ke ky d 0 (p + 1) n (sAt s ((skp B N (rAt s)) + 1)))) + 1) (by omega) (by omega)).1
                    refine go_aload_n dX10_part0_198 rfl ?_
                    refine go_dup dX10_part0_199 rfl ?_
                    refine go_getI 27 dX10_part0_200 fl_X10_298 (by first | assumption | exact Nat.le_of_ble_eq_true rfl) (by first | assumption | rfl) rfl rfl ?_
                    try simp (disch := omega) only [ua_same, ua_ne, uf_same, uf_ne]
                    refine go_iconst dX10_part0_203 rfl ?_
                    refine go_isub dX10_part0_204 ⟨by omega, by omega⟩ ?_
                    rw [h27c, show p + 1 - 1 = p by omega]
                    refine go_putI 27 dX10_part0_205 pl_X10_298 (by first | assumption | exact Nat.le_of_ble_eq_true rfl) (by first | assumption | rfl) rfl rfl ?_
                    refine go_aload_n dX10_part0_208 rfl ?_
                    refine go_vV (ci := 9) dX10_part0_209 (ct_X10_nextToken (μ := (ud μ181 87 27 p)) (by simp (disch := omega) only [ua_same, ua_ne, uf_same, uf_ne]; rw [hNc]; exact hN0) (by simp (disch := omega) only [ua_same, ua_ne, uf_same, uf_ne]; rw [hNc]; exact hN1) (by simp (disch := omega) only [ua_same, ua_ne, uf_same, uf_ne]; rw [v5]; have := hokc.1; omega) (by simp (disch := omega) only [ua_same, ua_ne, uf_same, uf_ne]; rw [v5, hNc]; omega)) ml_X10_270 mc_X10_nextToken mv_X10_nextToken rfl (by first | assumption | exact Nat.le_of_ble_eq_true rfl) (by first | assumption | rfl) rfl ⟨Nat.ble_eq_true_of_le (by dsimp only; omega), rfl⟩ ⟨Nat.le_refl _, Nat.le_refl _⟩ rfl rfl rfl (fun μ209 hc209 => ?_)
                    obtain ⟨htk209, hf209⟩ := hc209
                    have hMo2 : MSo B N (ud μ181 87 27 p) (sAt (rdL B N ke ky d 0 (p + 1) n (sAt s ((skp B N (rAt s)) + 1))) (skp B N (rAt (rdL B N ke ky d 0 (p + 1) n (sAt s ((skp B N (rAt s)) + 1)))) + 1)) p n la := by
                      refine ⟨hBc, ?_, hok3, hnf, ?_, ?_, ?_, ?_, ?_, hcdc⟩
                      · simp (disch := omega) only [ua_same, ua_ne, uf_same, uf_ne]; exact hNc
                      · simp (disch := omega) only [ua_same, ua_ne, uf_same, uf_ne]
                      · simp (disch := omega) only [ua_same, ua_ne, uf_same, uf_ne]; exact h28c
                      · simp (disch := omega) only [ua_same, ua_ne, uf_same, uf_ne]; exact h29c
                      · simp (disch := omega) only [ua_same, ua_ne, uf_same, uf_ne]; exact h31c
                      · simp (disch := omega) only [ua_same, ua_ne, uf_same, uf_ne]; exact h30c
                    obtain ⟨hMn3, hPn3⟩ := ms_nt hMo2 (by simp (disch := omega) only [ua_same, ua_ne, uf_same, uf_ne]; exact v5) htk209 hf209
                    refine go_iconst dX10_part0_212 rfl ?_
                    refine go_ri dX10_part0_213 (tyZ (by first | exact Or.inl rfl | exact Or.inr rfl | exact tv_01 | assumption)) ⟨Nat.le_refl _, Nat.le_refl _⟩ (?_)
                    rw [hrx, hcl]
                    exact ⟨fun _ => ⟨rfl, _, hMn3⟩, fun h => absurd hnf h, ((pf_k (by omega)).tr (hPn.tr hc181.2.2)).tr ((pf_k (by omega)).tr hPn3)⟩
                  ·
                    refine go_iconst dX10_part0_196 rfl ?_
                    refine go_ri dX10_part0_197 (tyZ (by first | exact Or.inl rfl | exact Or.inr rfl | exact tv_01 | assumption)) ⟨Nat.le_refl _, Nat.le_refl _⟩ (?_)
                    have hn41 : ¬ bA B N (skp B N (rAt (rdL B N ke ky d 0 (p + 1) n (sAt s ((skp B N (rAt s)) + 1))))) = 41 := fun e => h193 ((tk_s (c := 41) htkc hskc.2 (by decide) (by decide) (by decide)).mpr e)
                    have hcl : clS B N (rdL B N ke ky d 0 (p + 1) n (sAt s ((skp B N (rAt s)) + 1))) = sFl (sAt (rdL B N ke ky d 0 (p + 1) n (sAt s ((skp B N (rAt s)) + 1))) (skp B N (rAt (rdL B N ke ky d 0 (p + 1) n (sAt s ((skp B N (rAt s)) + 1)))))) (skp B N (rAt (rdL B N ke ky d 0 (p + 1) n (sAt s ((skp B N (rAt s)) + 1))))) := (if_pos hnf).trans (if_neg hn41)
                    have hr0 := hokc.1
                    rw [hrx, hcl]
                    exact ⟨fun h => absurd (show skp B N (rAt (rdL B N ke ky d 0 (p + 1) n (sAt s ((skp B N (rAt s)) + 1)))) = -1000000005 from h) (by omega), fun _ => ⟨rfl, htkc.1⟩, ((pf_k (by omega)).tr (hPn.tr hc181.2.2))⟩
              ·
                refine go_iconst dX10_part0_163 rfl ?_
                refine go_ri dX10_part0_164 (tyZ (by first | exact Or.inl rfl | exact Or.inr rfl | exact tv_01 | assumption)) ⟨Nat.le_refl _, Nat.le_refl _⟩ (?_)
                have hr0 := hok.1
                have hrx : (rdL B N ke ky (d + 1) 6 p n s) = sFl (sAt s (skp B N (rAt s))) (skp B N (rAt s)) := by
                  refine rp_bad hfl ?_ ?_ ?_ ?_
                  · exact fun h => absurd h.2 (by omega)
                  · exact fun h => h90 ((tk_s (c := 33) htk hsk.2 (by decide) (by decide) (by decide)).mpr h.1)
                  · intro hq
                    have hlt : (skp B N (rAt s)) < N := bA_lt (B := B) (by have : 48 ≤ bA B N (skp B N (rAt s)) ∧ bA B N (skp B N (rAt s)) ≤ 57 := of_decide_eq_true hq; omega)
                    obtain ⟨_, d2, d3⟩ := htk.2.2.2.1 hlt hq
                    by_cases e1 : (skp B N (rAt s)) = ke
                    · exact Or.inl e1
                    · by_cases e2 : 4 < wEd B N (skp B N (rAt s)) - (skp B N (rAt s))
                      · exact Or.inr e2
                      · exact absurd (d3 ⟨fun t => e1 (hop.mp t), by omega⟩).1 h5
                  · rintro hq ⟨hnm, hw⟩
                    have hnl := nm_lt hnm
                    have hqL : qLt B N (skp B N (rAt s)) = true := qLt_t hnl
                    have hlt : (skp B N (rAt s)) < N := bA_lt (B := B) (by omega)
                    have hbA : bA B N (skp B N (rAt s)) = B (skp B N (rAt s)) := if_pos hlt
                    obtain ⟨_, t1, t2, t3⟩ := htk.2.2.1 hlt hqL
                    rw [if_pos (by omega)] at t3
                    rw [← hbA] at t3
                    exact h56 (by rw [t3]; exact hnm)
                rw [hrx]
                exact ⟨fun h => absurd (show (skp B N (rAt s)) = -1000000005 from h) (by omega), fun _ => ⟨rfl, htk.1⟩, PF.rf⟩
          ·
            refine go_aload_n dX10_part0_93 rfl ?_
            refine go_getI 28 dX10_part0_94 fl_X10_295 (by first | assumption | exact Nat.le_of_ble_eq_true rfl) (by first | assumption | rfl) rfl rfl ?_
            try simp (disch := omega) only [ua_same, ua_ne, uf_same, uf_ne]
            refine go_bipush dX10_part0_97 rfl (by decide) ?_
            refine go_icmp_ge (tgt := 145) dX10_part0_99 rfl (fun h99 => ?_) (fun h99 => ?_)
            ·
              refine go_aload_n dX10_part0_145 rfl ?_
              refine go_bipush dX10_part0_146 rfl (by decide) ?_
              refine go_vI (ci := 9) dX10_part0_148 (ct_X10_isSign _) ml_X10_267 mc_X10_isSign mv_X10_isSign rfl (by first | assumption | exact Nat.le_of_ble_eq_true rfl) (by first | assumption | rfl) rfl ⟨Nat.ble_eq_true_of_le (by dsimp only; omega), rfl⟩ ⟨Nat.le_refl _, Nat.le_refl _⟩ rfl rfl rfl (fun x148 μ148 hc148 => ?_)
              obtain ⟨rfl, hm148⟩ := hc148
              rw [hm148]
              first | refine go_bz (tgt := 163) dX10_part0_151 rfl (fun h151 => ?_) (fun h151 => ?_) | refine go_if_eq (tgt := 163) dX10_part0_151 rfl (fun h151 => ?_) (fun h151 => ?_)
              ·
                refine go_iconst dX10_part0_163 rfl ?_
                refine go_ri dX10_part0_164 (tyZ (by first | exact Or.inl rfl | exact Or.inr rfl | exact tv_01 | assumption)) ⟨Nat.le_refl _, Nat.le_refl _⟩ (?_)
                have hr0 := hok.1
                have hrx : (rdL B N ke ky (d + 1) 6 p n s) = sFl (sAt s (skp B N (rAt s))) (skp B N (rAt s)) := by
                  refine rp_bad hfl ?_ ?_ ?_ ?_
                  · exact fun h => h151 ((tk_s (c := 40) htk hsk.2 (by decide) (by decide) (by decide)).mpr h.1)
                  · exact fun h => absurd h.2 (by omega)
                  · intro hq
                    have hlt : (skp B N (rAt s)) < N := bA_lt (B := B) (by have : 48 ≤ bA B N (skp B N (rAt s)) ∧ bA B N (skp B N (rAt s)) ≤ 57 := of_decide_eq_true hq; omega)
                    obtain ⟨_, d2, d3⟩ := htk.2.2.2.1 hlt hq
                    by_cases e1 : (skp B N (rAt s)) = ke
                    · exact Or.inl e1
                    · by_cases e2 : 4 < wEd B N (skp B N (rAt s)) - (skp B N (rAt s))
                      · exact Or.inr e2
                      · exact absurd (d3 ⟨fun t => e1 (hop.mp t), by omega⟩).1 h5
                  · rintro hq ⟨hnm, hw⟩
                    have hnl := nm_lt hnm
                    have hqL : qLt B N (skp B N (rAt s)) = true := qLt_t hnl
                    have hlt : (skp B N (rAt s)) < N := bA_lt (B := B) (by omega)
                    have hbA : bA B N (skp B N (rAt s)) = B (skp B N (rAt s)) := if_pos hlt
                    obtain ⟨_, t1, t2, t3⟩ := htk.2.2.1 hlt hqL
                    rw [if_pos (by omega)] at t3
                    rw [← hbA] at t3
                    exact h56 (by rw [t3]; exact hnm)
                rw [hrx]
                exact ⟨fun h => absurd (show (skp B N (rAt s)) = -1000000005 from h) (by omega), fun _ => ⟨rfl, htk.1⟩, PF.rf⟩
              ·
                refine go_aload_n dX10_part0_154 rfl ?_
                refine go_getI 27 dX10_part0_155 fl_X10_298 (by first | assumption | exact Nat.le_of_ble_eq_true rfl) (by first | assumption | rfl) rfl rfl ?_
                try simp (disch := omega) only [ua_same, ua_ne, uf_same, uf_ne]
                refine go_bipush dX10_part0_158 rfl (by decide) ?_
                refine go_icmp_ne (tgt := 165) dX10_part0_160 rfl (fun h160 => ?_) (fun h160 => ?_)
                ·
                  have hsg : bA B N (skp B N (rAt s)) = 40 := (tk_s (c := 40) htk hsk.2 (by decide) (by decide) (by decide)).mp h151
                  obtain ⟨q1, q2, q3, q4, q5⟩ := tk_3 htk hsk.2 h151.1
                  have hp7 : p < 8 := by omega
                  have hrx : (rdL B N ke ky (d + 1) 6 p n s) = clS B N (rdL B N ke ky d 0 (p + 1) n (sAt s ((skp B N (rAt s)) + 1))) := rp_par hfl hsg hp7
                  have hok1 := (gw_at hok (v := (skp B N (rAt s)) + 1) (by omega) (by omega)).1
                  refine go_aload_n dX10_part0_165 rfl ?_
                  refine go_dup dX10_part0_166 rfl ?_
                  refine go_getI 27 dX10_part0_167 fl_X10_298 (by first | assumption | exact Nat.le_of_ble_eq_true rfl) (by first | assumption | rfl) rfl rfl ?_
                  try simp (disch := omega) only [ua_same, ua_ne, uf_same, uf_ne]
                  refine go_iconst dX10_part0_170 rfl ?_
                  refine go_iadd dX10_part0_171 ⟨by omega, by omega⟩ ?_
                  rw [h27]
                  refine go_putI 27 dX10_part0_172 pl_X10_298 (by first | assumption | exact Nat.le_of_ble_eq_true rfl) (by first | assumption | rfl) rfl rfl ?_
                  refine go_aload_n dX10_part0_175 rfl ?_
                  refine go_vV (ci := 9) dX10_part0_176 (ct_X10_nextToken (μ := (ud μ 87 27 (p + 1))) (by simp (disch := omega) only [ua_same, ua_ne, uf_same, uf_ne]; rw [hNN]; exact hN0) (by simp (disch := omega) only [ua_same, ua_ne, uf_same, uf_ne]; rw [hNN]; exact hN1) (by simp (disch := omega) only [ua_same, ua_ne, uf_same, uf_ne]; omega) (by simp (disch := omega) only [ua_same, ua_ne, uf_same, uf_ne]; omega)) ml_X10_270 mc_X10_nextToken mv_X10_nextToken rfl (by first | assumption | exact Nat.le_of_ble_eq_true rfl) (by first | assumption | rfl) rfl ⟨Nat.ble_eq_true_of_le (by dsimp only; omega), rfl⟩ ⟨Nat.le_refl _, Nat.le_refl _⟩ rfl rfl rfl (fun μ176 hc176 => ?_)
                  obtain ⟨htk176, hf176⟩ := hc176
                  have hMo : MSo B N (ud μ 87 27 (p + 1)) (sAt s ((skp B N (rAt s)) + 1)) (p + 1) n la := by
                    refine ⟨hB, ?_, hok1, hfl, ?_, ?_, ?_, ?_, ?_, hcd⟩
                    · simp (disch := omega) only [ua_same, ua_ne, uf_same, uf_ne]; exact hNN
                    · simp (disch := omega) only [ua_same, ua_ne, uf_same, uf_ne]; try exact h27
                    · simp (disch := omega) only [ua_same, ua_ne, uf_same, uf_ne]; try exact h28
                    · simp (disch := omega) only [ua_same, ua_ne, uf_same, uf_ne]; exact h29
                    · simp (disch := omega) only [ua_same, ua_ne, uf_same, uf_ne]; exact h31
                    · simp (disch := omega) only [ua_same, ua_ne, uf_same, uf_ne]; exact h30
                  obtain ⟨hMn, hPn⟩ := ms_nt hMo (by simp (disch := omega) only [ua_same, ua_ne, uf_same, uf_ne]; exact q5) htk176 hf176
                  refine go_aload_n dX10_part0_179 rfl ?_
                  refine go_iload_n dX10_part0_180 rfl ?_
                  refine go_vI (ci := 9) dX10_part0_181 (hE (p + 1) n (sAt s ((skp B N (rAt s)) + 1)) _ μ176 (by omega) (by omega) hn0 hn8 (by omega) hMn ⟨fun h => absurd h.1.2 (by simp (disch := omega) only [ua_same, ua_ne, uf_same, uf_ne]; omega), fun h => absurd h (by have := (skp_r (B := B) (p := (skp B N (rAt s)) + 1) (show (skp B N (rAt s)) + 1 ≤ N by omega)).1; show ¬ (skp B N ((skp B N (rAt s)) + 1) = ke); omega)⟩ (by show ke ≤ (skp B N (rAt s)) + 1; omega)) ml_X10_301 mc_X10_either mv_X10_either rfl (by first | assumption | exact Nat.le_of_ble_eq_true rfl) (by first | assumption | rfl) rfl ⟨Nat.ble_eq_true_of_le (by dsimp only; omega), rfl⟩ ⟨Nat.le_refl _, Nat.le_refl _⟩ rfl rfl rfl (fun x181 μ181 hc181 => ?_)
                  first | refine go_bz (tgt := 196) dX10_part0_184 rfl (fun h184 => ?_) (fun h184 => ?_) | refine go_if_eq (tgt := 196) dX10_part0_184 rfl (fun h184 => ?_) (fun h184 => ?_)
                  ·
                    refine go_iconst dX10_part0_196 rfl ?_
                    refine go_ri dX10_part0_197 (tyZ (by first | exact Or.inl rfl | exact Or.inr rfl | exact tv_01 | assumption)) ⟨Nat.le_refl _, Nat.le_refl _⟩ (?_)
                    have hnf : rFl (rdL B N ke ky d 0 (p + 1) n (sAt s ((skp B N (rAt s)) + 1))) ≠ -1000000005 := fun h => by have := (hc181.1 h).1; omega
                    have hcl : clS B N (rdL B N ke ky d 0 (p + 1) n (sAt s ((skp B N (rAt s)) + 1))) = (rdL B N ke ky d 0 (p + 1) n (sAt s ((skp B N (rAt s)) + 1))) := if_neg hnf
                    rw [hrx, hcl]
                    exact ⟨fun h => absurd h hnf, fun _ => ⟨rfl, (hc181.2.1 hnf).2⟩, ((pf_k (by omega)).tr (hPn.tr hc181.2.2))⟩
                  ·
                    have hnf : rFl (rdL B N ke ky d 0 (p + 1) n (sAt s ((skp B N (rAt s)) + 1))) = -1000000005 := Decidable.byContradiction (fun h => h184 (hc181.2.1 h).1)
                    obtain ⟨_, tg2, hMs⟩ := hc181.1 hnf
                    obtain ⟨⟨hBc, hNc, hokc, _, h27c, h28c, h29c, h31c, h30c, hcdc⟩, htkc⟩ := id hMs
                    have hskc := skp_r (B := B) hokc.2.1
                    refine go_aload_n dX10_part0_187 rfl ?_
                    refine go_bipush dX10_part0_188 rfl (by decide) ?_
                    refine go_vI (ci := 9) dX10_part0_190 (ct_X10_isSign _) ml_X10_267 mc_X10_isSign mv_X10_isSign rfl (by first | assumption | exact Nat.le_of_ble_eq_true rfl) (by first | assumption | rfl) rfl ⟨Nat.ble_eq_true_of_le (by dsimp only; omega), rfl⟩ ⟨Nat.le_refl _, Nat.le_refl _⟩ rfl rfl rfl (fun x190 μ190 hc190 => ?_)
                    obtain ⟨rfl, hm190⟩ := hc190
                    rw [hm190]
                    first | refine go_bnz (tgt := 198) dX10_part0_193 rfl (fun h193 => ?_) (fun h193 => ?_) | refine go_if_ne (tgt := 198) dX10_part0_193 rfl (fun h193 => ?_) (fun h193 => ?_)
                    ·
                      have hy41 : bA B N (skp B N (rAt (rdL B N ke ky d 0 (p + 1) n (sAt s ((skp B N (rAt s)) + 1))))) = 41 := (tk_s (c := 41) htkc hskc.2 (by decide) (by decide) (by decide)).mp h193
                      obtain ⟨v1, v2, v3, v4, v5⟩ := tk_3 htkc hskc.2 h193.1
                      have hcl : clS B N (rdL B N ke ky d 0 (p + 1) n (sAt s ((skp B N (rAt s)) + 1))) = (sAt (rdL B N ke ky d 0 (p + 1) n (sAt s ((skp B N (rAt s)) + 1))) (skp B N (rAt (rdL B N ke ky d 0 (p + 1) n (sAt s ((skp B N (rAt s)) + 1)))) + 1)) := (if_pos hnf).trans (if_pos hy41)
                      have hok3 := (gw_at hokc (v := skp B N (rAt (rdL B N ke ky d 0 (p + 1) n (sAt s ((skp B N (rAt s)) + 1)))) + 1) (by omega) (by omega)).1
                      refine go_aload_n dX10_part0_198 rfl ?_
                      refine go_dup dX10_part0_199 rfl ?_
                      refine go_getI 27 dX10_part0_200 fl_X10_298 (by first | assumption | exact Nat.le_of_ble_eq_true rfl) (by first | assumption | rfl) rfl rfl ?_
                      try simp (disch := omega) only [ua_same, ua_ne, uf_same, uf_ne]
                      refine go_iconst dX10_part0_203 rfl ?_
                      refine go_isub dX10_part0_204 ⟨by omega, by omega⟩ ?_
                      rw [h27c, show p + 1 - 1 = p by omega]
                      refine go_putI 27 dX10_part0_205 pl_X10_298 (by first | assumption | exact Nat.le_of_ble_eq_true rfl) (by first | assumption | rfl) rfl rfl ?_
                      refine go_aload_n dX10_part0_208 rfl ?_
                      refine go_vV (ci := 9) dX10_part0_209 (ct_X10_nextToken (μ := (ud μ181 87 27 p)) (by simp (disch := omega) only [ua_same, ua_ne, uf_same, uf_ne]; rw [hNc]; exact hN0) (by simp (disch := omega) only [ua_same, ua_ne, uf_same, uf_ne]; rw [hNc]; exact hN1) (by simp (disch := omega) only [ua_same, ua_ne, uf_same, uf_ne]; rw [v5]; have := hokc.1; omega) (by simp (disch := omega) only [ua_same, ua_ne, uf_same, uf_ne]; rw [v5, hNc]; omega)) ml_X10_270 mc_X10_nextToken mv_X10_nextToken rfl (by first | assumption | exact Nat.le_of_ble_eq_true rfl) (by first | assumption | rfl) rfl ⟨Nat.ble_eq_true_of_le (by dsimp only; omega), rfl⟩ ⟨Nat.le_refl _, Nat.le_refl _⟩ rfl rfl rfl (fun μ209 hc209 => ?_)
                      obtain ⟨htk209, hf209⟩ := hc209
                      have hMo2 : MSo B N (ud μ181 87 27 p) (sAt (rdL B N ke ky d 0 (p + 1) n (sAt s ((skp B N (rAt s)) + 1))) (skp B N (rAt (rdL B N ke ky d 0 (p + 1) n (sAt s ((skp B N (rAt s)) + 1)))) + 1)) p n la := by
                        refine ⟨hBc, ?_, hok3, hnf, ?_, ?_, ?_, ?_, ?_, hcdc⟩
                        · simp (disch := omega) only [ua_same, ua_ne, uf_same, uf_ne]; exact hNc
                        · simp (disch := omega) only [ua_same, ua_ne, uf_same, uf_ne]
                        · simp (disch := omega) only [ua_same, ua_ne, uf_same, uf_ne]; exact h28c
                        · simp (disch := omega) only [ua_same, ua_ne, uf_same, uf_ne]; exact h29c
                        · simp (disch := omega) only [ua_same, ua_ne, uf_same, uf_ne]; exact h31c
                        · simp (disch := omega) only [ua_same, ua_ne, uf_same, uf_ne]; exact h30c
                      obtain ⟨hMn3, hPn3⟩ := ms_nt hMo2 (by simp (disch := omega) only [ua_same, ua_ne, uf_same, uf_ne]; exact v5) htk209 hf209
                      refine go_iconst dX10_part0_212 rfl ?_
                      refine go_ri dX10_part0_213 (tyZ (by first | exact Or.inl rfl | exact Or.inr rfl | exact tv_01 | assumption)) ⟨Nat.le_refl _, Nat.le_refl _⟩ (?_)
                      rw [hrx, hcl]
                      exact ⟨fun _ => ⟨rfl, _, hMn3⟩, fun h => absurd hnf h, ((pf_k (by omega)).tr (hPn.tr hc181.2.2)).tr ((pf_k (by omega)).tr hPn3)⟩
                    ·
                      refine go_iconst dX10_part0_196 rfl ?_
                      refine go_ri dX10_part0_197 (tyZ (by first | exact Or.inl rfl | exact Or.inr rfl | exact tv_01 | assumption)) ⟨Nat.le_refl _, Nat.le_refl _⟩ (?_)
                      have hn41 : ¬ bA B N (skp B N (rAt (rdL B N ke ky d 0 (p + 1) n (sAt s ((skp B N (rAt s)) + 1))))) = 41 := fun e => h193 ((tk_s (c := 41) htkc hskc.2 (by decide) (by decide) (by decide)).mpr e)
                      have hcl : clS B N (rdL B N ke ky d 0 (p + 1) n (sAt s ((skp B N (rAt s)) + 1))) = sFl (sAt (rdL B N ke ky d 0 (p + 1) n (sAt s ((skp B N (rAt s)) + 1))) (skp B N (rAt (rdL B N ke ky d 0 (p + 1) n (sAt s ((skp B N (rAt s)) + 1)))))) (skp B N (rAt (rdL B N ke ky d 0 (p + 1) n (sAt s ((skp B N (rAt s)) + 1))))) := (if_pos hnf).trans (if_neg hn41)
                      have hr0 := hokc.1
                      rw [hrx, hcl]
                      exact ⟨fun h => absurd (show skp B N (rAt (rdL B N ke ky d 0 (p + 1) n (sAt s ((skp B N (rAt s)) + 1)))) = -1000000005 from h) (by omega), fun _ => ⟨rfl, htkc.1⟩, ((pf_k (by omega)).tr (hPn.tr hc181.2.2))⟩
                ·
                  refine go_iconst dX10_part0_163 rfl ?_
                  refine go_ri dX10_part0_164 (tyZ (by first | exact Or.inl rfl | exact Or.inr rfl | exact tv_01 | assumption)) ⟨Nat.le_refl _, Nat.le_refl _⟩ (?_)
                  have hr0 := hok.1
                  have hrx : (rdL B N ke ky (d + 1) 6 p n s) = sFl (sAt s (skp B N (rAt s))) (skp B N (rAt s)) := by
                    refine rp_bad hfl ?_ ?_ ?_ ?_
                    · exact fun h => absurd h.2 (by omega)
                    · exact fun h => absurd h.2 (by omega)
                    · intro hq
                      have hlt : (skp B N (rAt s)) < N := bA_lt (B := B) (by have : 48 ≤ bA B N (skp B N (rAt s)) ∧ bA B N (skp B N (rAt s)) ≤ 57 := of_decide_eq_true hq; omega)
                      obtain ⟨_, d2, d3⟩ := htk.2.2.2.1 hlt hq
                      by_cases e1 : (skp B N (rAt s)) = ke
                      · exact Or.inl e1
                      · by_cases e2 : 4 < wEd B N (skp B N (rAt s)) - (skp B N (rAt s))
                        · exact Or.inr e2
                        · exact absurd (d3 ⟨fun t => e1 (hop.mp t), by omega⟩).1 h5
                    · rintro hq ⟨hnm, hw⟩
                      have hnl := nm_lt hnm
                      have hqL : qLt B N (skp B N (rAt s)) = true := qLt_t hnl
                      have hlt : (skp B N (rAt s)) < N := bA_lt (B := B) (by omega)
                      have hbA : bA B N (skp B N (rAt s)) = B (skp B N (rAt s)) := if_pos hlt
                      obtain ⟨_, t1, t2, t3⟩ := htk.2.2.1 hlt hqL
                      rw [if_pos (by omega)] at t3
                      rw [← hbA] at t3
                      exact h56 (by rw [t3]; exact hnm)
                  rw [hrx]
                  exact ⟨fun h => absurd (show (skp B N (rAt s)) = -1000000005 from h) (by omega), fun _ => ⟨rfl, htk.1⟩, PF.rf⟩
            ·
              have hsg : bA B N (skp B N (rAt s)) = 33 := (tk_s (c := 33) htk hsk.2 (by decide) (by decide) (by decide)).mp h90
              obtain ⟨q1, q2, q3, q4, q5⟩ := tk_3 htk hsk.2 h90.1
              have hrx : (rdL B N ke ky (d + 1) 6 p n s) = adC (rdL B N ke ky d 6 p (n + 1) (sAt s ((skp B N (rAt s)) + 1))) (-33) := rp_not hfl hsg (by omega)
              have hok1 := (gw_at hok (v := (skp B N (rAt s)) + 1) (by omega) (by omega)).1
              refine go_aload_n dX10_part0_102 rfl ?_
              refine go_dup dX10_part0_103 rfl ?_
              refine go_getI 28 dX10_part0_104 fl_X10_295 (by first | assumption | exact Nat.le_of_ble_eq_true rfl) (by first | assumption | rfl) rfl rfl ?_
              try simp (disch := omega) only [ua_same, ua_ne, uf_same, uf_ne]
              refine go_iconst dX10_part0_107 rfl ?_
              refine go_iadd dX10_part0_108 ⟨by omega, by omega⟩ ?_
              rw [h28]
              refine go_putI 28 dX10_part0_109 pl_X10_295 (by first | assumption | exact Nat.le_of_ble_eq_true rfl) (by first | assumption | rfl) rfl rfl ?_
              refine go_aload_n dX10_part0_112 rfl ?_
              refine go_vV (ci := 9) dX10_part0_113 (ct_X10_nextToken (μ := (ud μ 87 28 (n + 1))) (by simp (disch := omega) only [ua_same, ua_ne, uf_same, uf_ne]; rw [hNN]; exact hN0) (by simp (disch := omega) only [ua_same, ua_ne, uf_same, uf_ne]; rw [hNN]; exact hN1) (by simp (disch := omega) only [ua_same, ua_ne, uf_same, uf_ne]; omega) (by simp (disch := omega) only [ua_same, ua_ne, uf_same, uf_ne]; omega)) ml_X10_270 mc_X10_nextToken mv_X10_nextToken rfl (by first | assumption | exact Nat.le_of_ble_eq_true rfl) (by first | assumption | rfl) rfl ⟨Nat.ble_eq_true_of_le (by dsimp only; omega), rfl⟩ ⟨Nat.le_refl _, Nat.le_refl _⟩ rfl rfl rfl (fun μ113 hc113 => ?_)
              obtain ⟨htk113, hf113⟩ := hc113
              have hMo : MSo B N (ud μ 87 28 (n + 1)) (sAt s ((skp B N (rAt s)) + 1)) p (n + 1) la := by
                refine ⟨hB, ?_, hok1, hfl, ?_, ?_, ?_, ?_, ?_, hcd⟩
                · simp (disch := omega) only [ua_same, ua_ne, uf_same, uf_ne]; exact hNN
                · simp (disch := omega) only [ua_same, ua_ne, uf_same, uf_ne]; try exact h27
                · simp (disch := omega) only [ua_same, ua_ne, uf_same, uf_ne]; try exact h28
                · simp (disch := omega) only [ua_same, ua_ne, uf_same, uf_ne]; exact h29
                · simp (disch := omega) only [ua_same, ua_ne, uf_same, uf_ne]; exact h31
                · simp (disch := omega) only [ua_same, ua_ne, uf_same, uf_ne]; exact h30
              obtain ⟨hMn, hPn⟩ := ms_nt hMo (by simp (disch := omega) only [ua_same, ua_ne, uf_same, uf_ne]; exact q5) htk113 hf113
              refine go_aload_n dX10_part0_116 rfl ?_
              refine go_iload_n dX10_part0_117 rfl ?_
              refine go_vI (ci := 9) dX10_part0_118 (hP p (n + 1) (sAt s ((skp B N (rAt s)) + 1)) _ μ113 hp0 hp8 (by omega) (by omega) (by omega) hMn ⟨fun h => absurd h.1.2 (by simp (disch := omega) only [ua_same, ua_ne, uf_same, uf_ne]; omega), fun h => absurd h (by have := (skp_r (B := B) (p := (skp B N (rAt s)) + 1) (show (skp B N (rAt s)) + 1 ≤ N by omega)).1; show ¬ (skp B N ((skp B N (rAt s)) + 1) = ke); omega)⟩ (by show ke ≤ (skp B N (rAt s)) + 1; omega)) ml_X10_286 mc_X10_part0 mv_X10_part0 rfl (by first | assumption | exact Nat.le_of_ble_eq_true rfl) (by first | assumption | rfl) rfl ⟨Nat.ble_eq_true_of_le (by dsimp only; omega), rfl⟩ ⟨Nat.le_refl _, Nat.le_refl _⟩ rfl rfl rfl (fun x118 μ118 hc118 => ?_)
              first | refine go_bnz (tgt := 126) dX10_part0_121 rfl (fun h121 => ?_) (fun h121 => ?_) | refine go_if_ne (tgt := 126) dX10_part0_121 rfl (fun h121 => ?_) (fun h121 => ?_)
              ·
                have hnf : rFl (rdL B N ke ky d 6 p (n + 1) (sAt s ((skp B N (rAt s)) + 1))) = -1000000005 := Decidable.byContradiction (fun h => h121 (hc118.2.1 h).1)
                obtain ⟨_, tg2, hMs⟩ := hc118.1 hnf
                obtain ⟨⟨hBc, hNc, hokc, _, h27c, h28c, h29c, h31c, h30c, hcdc⟩, htkc⟩ := id hMs
                have hl0 := hokc.2.2.1
                have hg3 := gw_rd (B := B) (N := N) (ke := ke) (ky := ky) d 6 p (n + 1) (sAt s ((skp B N (rAt s)) + 1)) (by decide) hok1
                have hln : rLn (rdL B N ke ky d 6 p (n + 1) (sAt s ((skp B N (rAt s)) + 1))) < 96 := by
                  obtain ⟨⟨g1, g2, g3, g4, g5, g6⟩, e2, e3, e4⟩ := hg3
                  simp only [rAt_sAt, rLn_sAt] at e2 e3 e4
                  have := hok.2.2.2.1
                  omega
                refine go_aload_n dX10_part0_126 rfl ?_
                refine go_dup dX10_part0_127 rfl ?_
                refine go_getI 28 dX10_part0_128 fl_X10_295 (by first | assumption | exact Nat.le_of_ble_eq_true rfl) (by first | assumption | rfl) rfl rfl ?_
                try simp (disch := omega) only [ua_same, ua_ne, uf_same, uf_ne]
                refine go_iconst dX10_part0_131 rfl ?_
                refine go_isub dX10_part0_132 ⟨by omega, by omega⟩ ?_
                rw [h28c, show n + 1 - 1 = n by omega]
                refine go_putI 28 dX10_part0_133 pl_X10_295 (by first | assumption | exact Nat.le_of_ble_eq_true rfl) (by first | assumption | rfl) rfl rfl ?_
                refine go_aload_n dX10_part0_136 rfl ?_
                refine go_iconst dX10_part0_137 rfl ?_
                refine go_bipush dX10_part0_138 rfl (by decide) ?_
                refine go_vV (ci := 9) dX10_part0_140 (ct_X10_step (μ := ud μ118 87 28 n) _ _ ⟨by simp (disch := omega) only [ua_same, ua_ne, uf_same, uf_ne]; rw [h30c]; omega, by simp (disch := omega) only [ua_same, ua_ne, uf_same, uf_ne]; rw [h30c]; omega⟩ ⟨by simp (disch := omega) only [ua_same, ua_ne, uf_same, uf_ne]; rw [h29c]; omega, by simp (disch := omega) only [ua_same, ua_ne, uf_same, uf_ne]; rw [h29c]; omega⟩) ml_X10_273 mc_X10_step mv_X10_step rfl (by first | assumption | exact Nat.le_of_ble_eq_true rfl) (by first | assumption | rfl) rfl ⟨Nat.ble_eq_true_of_le (by dsimp only; omega), rfl⟩ ⟨Nat.le_refl _, Nat.le_refl _⟩ rfl rfl rfl (fun μ140 hc140 => ?_)
                have e30 : (ud μ118 87 28 n) 87 30 = la := by simp (disch := omega) only [ua_same, ua_ne, uf_same, uf_ne]; exact h30c
                have e29 : (ud μ118 87 28 n) 87 29 = rLn (rdL B N ke ky d 6 p (n + 1) (sAt s ((skp B N (rAt s)) + 1))) := by simp (disch := omega) only [ua_same, ua_ne, uf_same, uf_ne]; exact h29c
                rw [e30, e29] at hc140
                subst hc140
                refine go_iconst dX10_part0_143 rfl ?_
                refine go_ri dX10_part0_144 (tyZ (by first | exact Or.inl rfl | exact Or.inr rfl | exact tv_01 | assumption)) ⟨Nat.le_refl _, Nat.le_refl _⟩ (?_)
                have hgs := gw_s1 (c := -33) hok hsk.1 q1 hg3
                have hMn3 : MS B N (ud (ud (ud (ud μ118 87 28 n) 88 (la + 2 * rLn (rdL B N ke ky d 6 p (n + 1) (sAt s ((skp B N (rAt s)) + 1)))) 2) 88 (la + 2 * rLn (rdL B N ke ky d 6 p (n + 1) (sAt s ((skp B N (rAt s)) + 1))) + 1) 33) 87 29 (rLn (rdL B N ke ky d 6 p (n + 1) (sAt s ((skp B N (rAt s)) + 1))) + 1)) (adC (rdL B N ke ky d 6 p (n + 1) (sAt s ((skp B N (rAt s)) + 1))) (-33)) tg2 p n la := by
                  refine ⟨⟨hBc, ?_, hgs.1, hnf, ?_, ?_, ?_, ?_, ?_, ?_⟩, ?_⟩
                  · simp (disch := omega) only [ua_same, ua_ne, uf_same, uf_ne]; exact hNc
                  · simp (disch := omega) only [ua_same, ua_ne, uf_same, uf_ne]; exact h27c
                  · simp (disch := omega) only [ua_same, ua_ne, uf_same, uf_ne]
                  · simp (disch := omega) only [ua_same, ua_ne, uf_same, uf_ne]; rfl
                  · simp (disch := omega) only [ua_same, ua_ne, uf_same, uf_ne]; exact h31c
                  · simp (disch := omega) only [ua_same, ua_ne, uf_same, uf_ne]; exact h30c
                  · have e88 : (ud (ud (ud (ud μ118 87 28 n) 88 (la + 2 * rLn (rdL B N ke ky d 6 p (n + 1) (sAt s ((skp B N (rAt s)) + 1)))) 2) 88 (la + 2 * rLn (rdL B N ke ky d 6 p (n + 1) (sAt s ((skp B N (rAt s)) + 1))) + 1) 33) 87 29 (rLn (rdL B N ke ky d 6 p (n + 1) (sAt s ((skp B N (rAt s)) + 1))) + 1)) 88 = uf (uf (μ118 88) (la + 2 * rLn (rdL B N ke ky d 6 p (n + 1) (sAt s ((skp B N (rAt s)) + 1)))) 2) (la + 2 * rLn (rdL B N ke ky d 6 p (n + 1) (sAt s ((skp B N (rAt s)) + 1))) + 1) 33 := by simp (disch := omega) only [ua_same, ua_ne, uf_same, uf_ne]
                    rw [e88]; exact cd_ad hcdc hokc.2.2.1 rfl (Or.inr (Or.inr ⟨rfl, Or.inl rfl⟩))
                  · have e87 : (ud (ud (ud (ud μ118 87 28 n) 88 (la + 2 * rLn (rdL B N ke ky d 6 p (n + 1) (sAt s ((skp B N (rAt s)) + 1)))) 2) 88 (la + 2 * rLn (rdL B N ke ky d 6 p (n + 1) (sAt s ((skp B N (rAt s)) + 1))) + 1) 33) 87 29 (rLn (rdL B N ke ky d 6 p (n + 1) (sAt s ((skp B N (rAt s)) + 1))) + 1)) 87 = uf (uf (μ118 87) 28 n) 29 (rLn (rdL B N ke ky d 6 p (n + 1) (sAt s ((skp B N (rAt s)) + 1))) + 1) := by simp (disch := omega) only [ua_same, ua_ne, uf_same, uf_ne]
                    rw [e87]; exact tok_k (by omega) (tok_k (by omega) htkc)
                rw [hrx]
                exact ⟨fun _ => ⟨rfl, tg2, hMn3⟩, fun h => absurd hnf h, ((pf_k (by omega)).tr (hPn.tr hc118.2.2)).tr ((pf_k (by omega)).tr (pf_st (by omega) (by omega)))⟩
              ·
                refine go_iconst dX10_part0_124 rfl ?_
                refine go_ri dX10_part0_125 (tyZ (by first | exact Or.inl rfl | exact Or.inr rfl | exact tv_01 | assumption)) ⟨Nat.le_refl _, Nat.le_refl _⟩ (?_)
                have hnf : rFl (rdL B N ke ky d 6 p (n + 1) (sAt s ((skp B N (rAt s)) + 1))) ≠ -1000000005 := fun h => by have := (hc118.1 h).1; omega
                rw [hrx]
                exact ⟨fun h => absurd h hnf, fun _ => ⟨rfl, (hc118.2.1 hnf).2⟩, ((pf_k (by omega)).tr (hPn.tr hc118.2.2))⟩
        ·
          obtain ⟨q1, q2, q3, q4, q5⟩ := tk_1 htk hsk.2 h38
          have hwl : wEd B N (skp B N (rAt s)) - (skp B N (rAt s)) = 1 := by
            by_cases e : wEd B N (skp B N (rAt s)) - (skp B N (rAt s)) = 1
            · exact e
            · rw [if_neg e] at q5; exact absurd q5 h45
          rw [if_pos hwl] at q5
          have hbA : bA B N (skp B N (rAt s)) = B (skp B N (rAt s)) := if_pos q1
          have hnm : nmO ky (bA B N (skp B N (rAt s))) := by rw [hbA, ← q5]; exact h56
          have hrx : (rdL B N ke ky (d + 1) 6 p n s) = (sAt (adP (sAt s (skp B N (rAt s))) (-(bA B N (skp B N (rAt s))))) ((skp B N (rAt s)) + 1)) := rp_name hfl q2 hnm (by omega)
          have hgr := gw_rd (B := B) (N := N) (ke := ke) (ky := ky) (d + 1) 6 p n s (by decide) hok
          rw [hrx] at hgr ⊢
          have hokS := hgr.1
          have hbe : μ 87 23 = rAt (sAt (adP (sAt s (skp B N (rAt s))) (-(bA B N (skp B N (rAt s))))) ((skp B N (rAt s)) + 1)) := by rw [q4]; show wEd B N (skp B N (rAt s)) = (skp B N (rAt s)) + 1; omega
          have hwr := wEd_r (B := B) hsk.2
          have hln : rLn s < 96 := by have := hok.2.2.2.1; omega
          have hcv : cdV 1 (μ 87 26) = -(bA B N (skp B N (rAt s))) := by rw [q5, hbA]; rfl
          have hnl := nm_lt hnm
          have hst0 : stOK 1 (μ 87 26) := Or.inr (Or.inl ⟨rfl, by rw [q5, ← hbA]; exact hnl.1, by rw [q5, ← hbA]; exact hnl.2⟩)
          refine go_aload_n dX10_part0_59 rfl ?_
          refine go_iconst dX10_part0_60 rfl ?_
          refine go_aload_n dX10_part0_61 rfl ?_
          refine go_getI 26 dX10_part0_62 fl_X10_245 (by first | assumption | exact Nat.le_of_ble_eq_true rfl) (by first | assumption | rfl) rfl rfl ?_
          try simp (disch := omega) only [ua_same, ua_ne, uf_same, uf_ne]
          refine go_vV (ci := 9) dX10_part0_65 (ct_X10_step _ _ ⟨by rw [h30]; omega, by rw [h30]; omega⟩ ⟨by rw [h29]; omega, by rw [h29]; omega⟩) ml_X10_273 mc_X10_step mv_X10_step rfl (by first | assumption | exact Nat.le_of_ble_eq_true rfl) (by first | assumption | rfl) rfl ⟨Nat.ble_eq_true_of_le (by dsimp only; omega), rfl⟩ ⟨Nat.le_refl _, Nat.le_refl _⟩ rfl rfl rfl (fun μ65 hc65 => ?_)
          rw [h30, h29] at hc65
          subst hc65
          refine go_aload_n dX10_part0_68 rfl ?_
          refine go_dup dX10_part0_69 rfl ?_
          refine go_getI 31 dX10_part0_70 fl_X10_289 (by first | assumption | exact Nat.le_of_ble_eq_true rfl) (by first | assumption | rfl) rfl rfl ?_
          try simp (disch := omega) only [ua_same, ua_ne, uf_same, uf_ne]
          refine go_iconst dX10_part0_73 rfl ?_
          refine go_iadd dX10_part0_74 ⟨by omega, by omega⟩ ?_
          rw [h31]
          refine go_putI 31 dX10_part0_75 pl_X10_289 (by first | assumption | exact Nat.le_of_ble_eq_true rfl) (by first | assumption | rfl) rfl rfl ?_
          refine go_aload_n dX10_part0_78 rfl ?_
          refine go_vV (ci := 9) dX10_part0_79 (ct_X10_nextToken (μ := (ud (ud (ud (ud μ 88 (la + 2 * rLn s) 1) 88 (la + 2 * rLn s + 1) (μ 87 26)) 87 29 (rLn s + 1)) 87 31 (rPc s + 1))) (by simp (disch := omega) only [ua_same, ua_ne, uf_same, uf_ne]; rw [hNN]; exact hN0) (by simp (disch := omega) only [ua_same, ua_ne, uf_same, uf_ne]; rw [hNN]; exact hN1) (by simp (disch := omega) only [ua_same, ua_ne, uf_same, uf_ne]; omega) (by simp (disch := omega) only [ua_same, ua_ne, uf_same, uf_ne]; omega)) ml_X10_270 mc_X10_nextToken mv_X10_nextToken rfl (by first | assumption | exact Nat.le_of_ble_eq_true rfl) (by first | assumption | rfl) rfl ⟨Nat.ble_eq_true_of_le (by dsimp only; omega), rfl⟩ ⟨Nat.le_refl _, Nat.le_refl _⟩ rfl rfl rfl (fun μ79 hc79 => ?_)
          obtain ⟨htk79, hf79⟩ := hc79
          have hMo : MSo B N (ud (ud (ud (ud μ 88 (la + 2 * rLn s) 1) 88 (la + 2 * rLn s + 1) (μ 87 26)) 87 29 (rLn s + 1)) 87 31 (rPc s + 1)) (sAt (adP (sAt s (skp B N (rAt s))) (-(bA B N (skp B N (rAt s))))) ((skp B N (rAt s)) + 1)) p n la := by
            refine ⟨hB, ?_, hokS, hfl, ?_, ?_, ?_, ?_, ?_, ?_⟩
            · simp (disch := omega) only [ua_same, ua_ne, uf_same, uf_ne]; exact hNN
            · simp (disch := omega) only [ua_same, ua_ne, uf_same, uf_ne]; exact h27
            · simp (disch := omega) only [ua_same, ua_ne, uf_same, uf_ne]; exact h28
            · simp (disch := omega) only [ua_same, ua_ne, uf_same, uf_ne]; rfl
            · simp (disch := omega) only [ua_same, ua_ne, uf_same, uf_ne]; rfl
            · simp (disch := omega) only [ua_same, ua_ne, uf_same, uf_ne]; exact h30
            · have e88 : (ud (ud (ud (ud μ 88 (la + 2 * rLn s) 1) 88 (la + 2 * rLn s + 1) (μ 87 26)) 87 29 (rLn s + 1)) 87 31 (rPc s + 1)) 88 = uf (uf (μ 88) (la + 2 * rLn s) 1) (la + 2 * rLn s + 1) (μ 87 26) := by simp (disch := omega) only [ua_same, ua_ne, uf_same, uf_ne]
              rw [e88]; exact cd_ad (s := sAt s (skp B N (rAt s))) hcd hok.2.2.1 hcv hst0
          obtain ⟨hMn, hPn⟩ := ms_nt hMo (by simp (disch := omega) only [ua_same, ua_ne, uf_same, uf_ne]; exact hbe) htk79 hf79
          have hP0 : PF μ (ud (ud (ud (ud μ 88 (la + 2 * rLn s) 1) 88 (la + 2 * rLn s + 1) (μ 87 26)) 87 29 (rLn s + 1)) 87 31 (rPc s + 1)) la := (pf_st (by omega) (by omega)).tr (pf_k (by omega))
          refine go_iconst dX10_part0_82 rfl ?_
          refine go_ri dX10_part0_83 (tyZ (by first | exact Or.inl rfl | exact Or.inr rfl | exact tv_01 | assumption)) ⟨Nat.le_refl _, Nat.le_refl _⟩ (?_)
          exact ⟨fun _ => ⟨rfl, _, hMn⟩, fun h => absurd hfl h, hP0.tr hPn⟩
  ·
    obtain ⟨q1, q2, q3, q4, q5, q6⟩ := tk_2 htk hsk.2 h5
    have hrx : (rdL B N ke ky (d + 1) 6 p n s) = (sAt (adP (sAt s (skp B N (rAt s))) (nuV B (skp B N (rAt s)) (wEd B N (skp B N (rAt s)) - (skp B N (rAt s))).toNat)) (wEd B N (skp B N (rAt s)))) := rp_num hfl q2 (fun e => q3 (hop.mpr e)) q4
    have hgr := gw_rd (B := B) (N := N) (ke := ke) (ky := ky) (d + 1) 6 p n s (by decide) hok
    rw [hrx] at hgr ⊢
    have hokS := hgr.1
    have hbe : μ 87 23 = rAt (sAt (adP (sAt s (skp B N (rAt s))) (nuV B (skp B N (rAt s)) (wEd B N (skp B N (rAt s)) - (skp B N (rAt s))).toNat)) (wEd B N (skp B N (rAt s)))) := q5
    have hwr := wEd_r (B := B) hsk.2
    have hwp := wEd_p q2 q1
    have hln : rLn s < 96 := by have := hok.2.2.2.1; omega
    have hcv : cdV 0 (μ 87 25) = (nuV B (skp B N (rAt s)) (wEd B N (skp B N (rAt s)) - (skp B N (rAt s))).toNat) := by rw [q6]; rfl
    have hnb := nuV_b (B := B) (p := (skp B N (rAt s))) (wEd B N (skp B N (rAt s)) - (skp B N (rAt s))).toNat (fun i a c => (wEd_dg q2 (by omega) i a (by omega)).2.2)
    have hp10 : (10 : Int) ^ (wEd B N (skp B N (rAt s)) - (skp B N (rAt s))).toNat ≤ 10000 := by
      rcases (by omega : (wEd B N (skp B N (rAt s)) - (skp B N (rAt s))).toNat = 0 ∨ (wEd B N (skp B N (rAt s)) - (skp B N (rAt s))).toNat = 1 ∨ (wEd B N (skp B N (rAt s)) - (skp B N (rAt s))).toNat = 2 ∨ (wEd B N (skp B N (rAt s)) - (skp B N (rAt s))).toNat = 3 ∨ (wEd B N (skp B N (rAt s)) - (skp B N (rAt s))).toNat = 4) with x | x | x | x | x <;> rw [x] <;> decide
    have hst0 : stOK 0 (μ 87 25) := Or.inl ⟨rfl, by rw [q6]; omega, by rw [q6]; omega⟩
    refine go_aload_n dX10_part0_8 rfl ?_
    refine go_iconst dX10_part0_9 rfl ?_
    refine go_aload_n dX10_part0_10 rfl ?_
    refine go_getI 25 dX10_part0_11 fl_X10_251 (by first | assumption | exact Nat.le_of_ble_eq_true rfl) (by first | assumption | rfl) rfl rfl ?_
    try simp (disch := omega) only [ua_same, ua_ne, uf_same, uf_ne]
    refine go_vV (ci := 9) dX10_part0_14 (ct_X10_step _ _ ⟨by rw [h30]; omega, by rw [h30]; omega⟩ ⟨by rw [h29]; omega, by rw [h29]; omega⟩) ml_X10_273 mc_X10_step mv_X10_step rfl (by first | assumption | exact Nat.le_of_ble_eq_true rfl) (by first | assumption | rfl) rfl ⟨Nat.ble_eq_true_of_le (by dsimp only; omega), rfl⟩ ⟨Nat.le_refl _, Nat.le_refl _⟩ rfl rfl rfl (fun μ14 hc14 => ?_)
    rw [h30, h29] at hc14
    subst hc14
    refine go_aload_n dX10_part0_17 rfl ?_
    refine go_dup dX10_part0_18 rfl ?_
    refine go_getI 31 dX10_part0_19 fl_X10_289 (by first | assumption | exact Nat.le_of_ble_eq_true rfl) (by first | assumption | rfl) rfl rfl ?_
    try simp (disch := omega) only [ua_same, ua_ne, uf_same, uf_ne]
    refine go_iconst dX10_part0_22 rfl ?_
    refine go_iadd dX10_part0_23 ⟨by omega, by omega⟩ ?_
    rw [h31]
    refine go_putI 31 dX10_part0_24 pl_X10_289 (by first | assumption | exact Nat.le_of_ble_eq_true rfl) (by first | assumption | rfl) rfl rfl ?_
    refine go_aload_n dX10_part0_27 rfl ?_
    refine go_vV (ci := 9) dX10_part0_28 (ct_X10_nextToken (μ := (ud (ud (ud (ud μ 88 (la + 2 * rLn s) 0) 88 (la + 2 * rLn s + 1) (μ 87 25)) 87 29 (rLn s + 1)) 87 31 (rPc s + 1))) (by simp (disch := omega) only [ua_same, ua_ne, uf_same, uf_ne]; rw [hNN]; exact hN0) (by simp (disch := omega) only [ua_same, ua_ne, uf_same, uf_ne]; rw [hNN]; exact hN1) (by simp (disch := omega) only [ua_same, ua_ne, uf_same, uf_ne]; omega) (by simp (disch := omega) only [ua_same, ua_ne, uf_same, uf_ne]; omega)) ml_X10_270 mc_X10_nextToken mv_X10_nextToken rfl (by first | assumption | exact Nat.le_of_ble_eq_true rfl) (by first | assumption | rfl) rfl ⟨Nat.ble_eq_true_of_le (by dsimp only; omega), rfl⟩ ⟨Nat.le_refl _, Nat.le_refl _⟩ rfl rfl rfl (fun μ28 hc28 => ?_)
    obtain ⟨htk28, hf28⟩ := hc28
    have hMo : MSo B N (ud (ud (ud (ud μ 88 (la + 2 * rLn s) 0) 88 (la + 2 * rLn s + 1) (μ 87 25)) 87 29 (rLn s + 1)) 87 31 (rPc s + 1)) (sAt (adP (sAt s (skp B N (rAt s))) (nuV B (skp B N (rAt s)) (wEd B N (skp B N (rAt s)) - (skp B N (rAt s))).toNat)) (wEd B N (skp B N (rAt s)))) p n la := by
      refine ⟨hB, ?_, hokS, hfl, ?_, ?_, ?_, ?_, ?_, ?_⟩
      · simp (disch := omega) only [ua_same, ua_ne, uf_same, uf_ne]; exact hNN
      · simp (disch := omega) only [ua_same, ua_ne, uf_same, uf_ne]; exact h27
      · simp (disch := omega) only [ua_same, ua_ne, uf_same, uf_ne]; exact h28
      · simp (disch := omega) only [ua_same, ua_ne, uf_same, uf_ne]; rfl
      · simp (disch := omega) only [ua_same, ua_ne, uf_same, uf_ne]; rfl
      · simp (disch := omega) only [ua_same, ua_ne, uf_same, uf_ne]; exact h30
      · have e88 : (ud (ud (ud (ud μ 88 (la + 2 * rLn s) 0) 88 (la + 2 * rLn s + 1) (μ 87 25)) 87 29 (rLn s + 1)) 87 31 (rPc s + 1)) 88 = uf (uf (μ 88) (la + 2 * rLn s) 0) (la + 2 * rLn s + 1) (μ 87 25) := by simp (disch := omega) only [ua_same, ua_ne, uf_same, uf_ne]
        rw [e88]; exact cd_ad (s := sAt s (skp B N (rAt s))) hcd hok.2.2.1 hcv hst0
    obtain ⟨hMn, hPn⟩ := ms_nt hMo (by simp (disch := omega) only [ua_same, ua_ne, uf_same, uf_ne]; exact hbe) htk28 hf28
    have hP0 : PF μ (ud (ud (ud (ud μ 88 (la + 2 * rLn s) 0) 88 (la + 2 * rLn s + 1) (μ 87 25)) 87 29 (rLn s + 1)) 87 31 (rPc s + 1)) la := (pf_st (by omega) (by omega)).tr (pf_k (by omega))
    refine go_iconst dX10_part0_31 rfl ?_
    refine go_ri dX10_part0_32 (tyZ (by first | exact Or.inl rfl | exact Or.inr rfl | exact tv_01 | assumption)) ⟨Nat.le_refl _, Nat.le_refl _⟩ (?_)
    exact ⟨fun _ => ⟨rfl, _, hMn⟩, fun h => absurd hfl h, hP0.tr hPn⟩

theorem hl_0 {l : Launch} {D : va_G} {cA : Nat → ClassId} {y : MethodName} {cc : ByteArray} {nl : Nat} {B : Int → Int} {N ke ky la lv : Int} (h : lv ≤ 6) : HL l D cA y cc nl B N ke ky la 0 lv := fun p n s tg μ p0 p8 n0 n8 hd => absurd hd (by omega)
theorem pm_all {l : Launch} {D : va_G} {cA : Nat → ClassId} {B : Int → Int} {N ke ky la : Int} (hN0 : 0 ≤ N) (hN1 : N ≤ 96) (hla : 0 ≤ la ∧ la ≤ 2922) (hky : 0 ≤ ky ∧ ky ≤ 2) (hkn : ∀ x, x = ke → ¬ qLt B N x = true) : ∀ (E d : Nat), d ≤ E → (HL l D cA yX10_part0 cX10_part0 2 B N ke ky la (d) 6) ∧ (HL l D cA yX10_either cX10_either 2 B N ke ky la (d) 0) ∧ (HL l D cA yX10_both cX10_both 2 B N ke ky la (d) 1) ∧ (HL l D cA yX10_test cX10_test 3 B N ke ky la (d) 2) ∧ (HL l D cA yX10_sum cX10_sum 3 B N ke ky la (d) 3) ∧ (HL l D cA yX10_term cX10_term 3 B N ke ky la (d) 4) := by
  intro E
  induction E with
  | zero =>
    intro d hd
    have e : d = 0 := by omega
    subst e
    exact ⟨hl_0 (by decide), hl_0 (by decide), hl_0 (by decide), hl_0 (by decide), hl_0 (by decide), hl_0 (by decide)⟩
  | succ E ih =>
    intro d hd
    cases d with
    | zero => exact ⟨hl_0 (by decide), hl_0 (by decide), hl_0 (by decide), hl_0 (by decide), hl_0 (by decide), hl_0 (by decide)⟩
    | succ d =>
      obtain ⟨h6, h0, h1, h2, h3, h4⟩ := ih d (by omega)
      refine ⟨pm_part0 hN0 hN1 hla hky hkn h6 h0, pm_either hN0 hN1 hla hky h1, pm_both hN0 hN1 hla hky h2, pm_test hN0 hN1 hla hky h3, pm_sum hN0 hN1 hla hky h4, pm_term hN0 hN1 hla hky ?_⟩
      intro p n s tg μ p0 p8 n0 n8 hd2 hM hop hke
      cases d with
      | zero => exact absurd hd2 (by omega)
      | succ d2 =>
        have h := (ih d2 (by omega)).1 p n s tg μ p0 p8 n0 n8 (by omega) hM hop hke
        rw [rdL_5]
        exact h

