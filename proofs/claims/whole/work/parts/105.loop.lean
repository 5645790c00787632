/-! THE LAW'S LOOP -/
section Script
variable {l : Launch} {D : va_G} {cA : Nat → ClassId} {X : XT} {own : String} {cc : ByteArray} {nL : Nat} {rt : Option FieldType} {B : Nat × Nat × Nat} {Qa : QT} {n : Nat} {ρ : RefM} {k z pc : Nat} {L : List (Nat × AV)} {st : List AV} {μ : Mem}
theorem go_slen {N : Nat} {xs : Nat → Int} (d : decode cc pc = .ok (.arraylength, 1)) (hX0 : X = some (N, xs)) (hN : N ≤ 3072) (kk : Go l D cA X own cc nL rt B Qa n ρ k z (pc + 1) L (vi (N : Nat) :: st) μ) : Go l D cA X own cc nL rt B Qa n ρ k z pc L (vr 1020 :: st) μ := by
  intro p e R s m args below meth c Q A n0 σ0 σ H locs ls hC hR hn hσ hW hl hL hst
  obtain ⟨hx, hb, hml, hown, hts, hK, hA, hE, hB, hX⟩ := id hC
  obtain ⟨h1, h2, h3, h4⟩ := hX N xs hX0
  have e0 : σ 1020 = σ0 1020 := hσ 1020 (Or.inr (by decide))
  have K := kk p e R s m args below meth c Q A n0 σ0 σ H locs ls hC hR hn hσ hW hl hL (ok_cons (show iR _ from ⟨by omega, by omega⟩) (ok_tl hst))
  have e1 : (vr 1020 :: st).map (cv σ) = Value.ref (σ0 1020) :: st.map (cv σ) := by
    show Value.ref (σ 1020) :: _ = _
    rw [e0]
  rw [e1]
  exact va_slen hx hb h1 h2 h3 hW.2.2.1 d K
theorem go_sld {N : Nat} {xs : Nat → Int} {a : Int} (d : decode cc pc = .ok (.iaload, 1)) (hX0 : X = some (N, xs)) (h0 : 0 ≤ a) (h1 : a < (N : Nat)) (kk : Go l D cA X own cc nL rt B Qa n ρ k z (pc + 1) L (vi (xs a.toNat) :: st) μ) : Go l D cA X own cc nL rt B Qa n ρ k z pc L (vi a :: vr 1020 :: st) μ := by
  intro p e R s m args below meth c Q A n0 σ0 σ H locs ls hC hR hn hσ hW hl hL hst
  obtain ⟨hx, hb, hml, hown, hts, hK, hA, hE, hB, hX⟩ := id hC
  obtain ⟨g1, g2, g3, g4⟩ := hX N xs hX0
  have ha : iR a := ok_hd hst
  have e0 : σ 1020 = σ0 1020 := hσ 1020 (Or.inr (by decide))
  have K := kk p e R s m args below meth c Q A n0 σ0 σ H locs ls hC hR hn hσ hW hl hL (ok_cons (g4 a.toNat) (ok_tl (ok_tl hst)))
  have e1 : (vi a :: vr 1020 :: st).map (cv σ) = Value.int (Int32.ofInt a) :: Value.ref (σ0 1020) :: st.map (cv σ) := by
    show Value.int (Int32.ofInt a) :: Value.ref (σ 1020) :: _ = _
    rw [e0]
  rw [e1]
  refine va_sld hx hb g1 g2 g3 hW.2.2.1 (oi_in h0 h1 ha) d ?_
  rw [oi_nat ha]
  exact K
end Script
/-! what the contracts ask, out of Sim -/
theorem si_sh {μ : Mem} (h : Sim μ) : shI μ := fun k hk => (h.2.2.2.1 k hk).1
theorem si_sl {μ : Mem} (h : Sim μ) : slI μ := fun k hk => ⟨(h.2.2.2.2.1 k hk).1, fun a => ((h.2.2.2.2.1 k hk).2.2.1 a).1, fun a => ((h.2.2.2.2.1 k hk).2.2.2.1 a).1⟩
theorem si_shM {μ μ1 : Mem} (h : Sim μ) (hf : ∀ w, 87 ≤ w → μ1 w = μ w) : shM μ1 := fun k k0 k1 => by
  have h4 := h.2.2.2.1 k.toNat (by omega)
  rw [show ((k.toNat : Nat) : Int) = k by omega] at h4
  rw [hf 91 (by decide), hf 92 (by decide), h4.2.1, h4.2.2.1]
  exact h4.1
theorem si_slM {μ μ1 : Mem} (h : Sim μ) (hf : ∀ w, 87 ≤ w → μ1 w = μ w) : slM μ1 := fun k k0 k1 => by
  have h5 := h.2.2.2.2.1 k.toNat (by omega)
  rw [show ((k.toNat : Nat) : Int) = k by omega] at h5
  rw [hf 94 (by decide), hf 97 (by decide), h5.2.1]
  exact ⟨h5.1, fun a => by rw [(h5.2.2.2.1 a).2.1]; exact (h5.2.2.2.1 a).1⟩
theorem si_md {μ μ1 : Mem} (h : Sim μ) (hf : ∀ w, 87 ≤ w → μ1 w = μ w) : mdI (μ1 88) := by rw [hf 88 (by decide)]; exact h.1.2.1
theorem si_md9 {μ μ1 : Mem} (h : Sim μ) (hf : ∀ w, 87 ≤ w → μ1 w = μ w) : μ1 87 3 ≠ 0 → mdI (μ1 89) := fun a => by
  rw [hf 87 (by decide), h.2.1.2.1] at a
  rw [hf 89 (by decide)]; exact (h.2.1.2.2 a).1.2.1
theorem si_tp {μ μ1 : Mem} (h : Sim μ) (hf : ∀ w, 87 ≤ w → μ1 w = μ w) : 0 ≤ μ1 87 21 ∧ μ1 87 21 ≤ 96 := by rw [hf 87 (by decide), h.2.2.1.2.1]; exact h.2.2.1.2.2.1
theorem si_w {μ μ1 : Mem} (h : Sim μ) (hf : ∀ w, 87 ≤ w → μ1 w = μ w) : 0 ≤ μ1 87 36 ∧ μ1 87 36 ≤ 60 := by rw [hf 87 (by decide), h.2.2.2.2.2.2.1]; exact h.2.2.2.2.2.2.2
theorem si_tx {μ μ1 : Mem} (h : Sim μ) (hf : ∀ w, 87 ≤ w → μ1 w = μ w) : 0 ≤ μ1 88 1 ∧ μ1 88 1 ≤ 14 := by rw [hf 88 (by decide)]; exact (md_t h.1.2.1).1

theorem lcI_eq {a : Int} : lcI a a = 0 := by unfold lcI; split <;> (try split) <;> omega
set_option maxRecDepth 100000 in
set_option maxHeartbeats 4000000 in
theorem lc_0 {l : Launch} {D : va_G} {cA : Nat → ClassId} {N : Nat} {xs : Nat → Int} {BF BK BZ K Z : Nat} (hN : N ≤ 3072) (hxs : ∀ j, iR (xs j)) (hB79 : 79 ≤ BF) (hKZ : K ≤ BK ∧ Z ≤ BZ) {i : Int} {μ : Mem} (i0 : 0 ≤ i) (i1 : i + 6 ≤ (N : Nat)) (hS : Sim μ) (kn : ∀ μ2, Sim μ2 → Go l D cA (some (N, xs)) RL cL_law 4 (some .boolean) (BF, BK, BZ) (fun r _ _ _ => r = some (vi 1)) 113 ρ0 K Z 1419 [(0, vr 1020), (1, vr 0), (2, vr 87), (3, vi i)] [] μ2) : Go l D cA (some (N, xs)) RL cL_law 4 (some .boolean) (BF, BK, BZ) (fun r _ _ _ => r = some (vi 1)) 113 ρ0 K Z 208 [(0, vr 1020), (1, vr 0), (2, vr 87), (3, vi i)] [] μ := by
  have hBF : ∀ d : Nat, Nat.ble (d + 1) 79 = true → Nat.ble (d + 1) BF = true := fun d h => Nat.ble_eq_true_of_le (Nat.le_trans (Nat.le_of_ble_eq_true h) hB79)
  refine go_aload_n dL_law_208 rfl ?_
  refine go_aload_n dL_law_209 rfl ?_
  refine go_iload_n dL_law_210 rfl ?_
  refine go_iconst dL_law_211 rfl ?_
  refine go_iadd dL_law_212 ⟨by omega, by omega⟩ ?_
  refine go_sld dL_law_213 rfl (by omega) (by omega) ?_
  refine go_aload_n dL_law_214 rfl ?_
  refine go_iload_n dL_law_215 rfl ?_
  refine go_iconst dL_law_216 rfl ?_
  refine go_iadd dL_law_217 ⟨by omega, by omega⟩ ?_
  refine go_sld dL_law_218 rfl (by omega) (by omega) ?_
  refine go_aload_n dL_law_219 rfl ?_
  refine go_iload_n dL_law_220 rfl ?_
  refine go_iconst dL_law_221 rfl ?_
  refine go_iadd dL_law_222 ⟨by omega, by omega⟩ ?_
  refine go_sld dL_law_223 rfl (by omega) (by omega) ?_
  refine go_aload_n dL_law_224 rfl ?_
  refine go_iload_n dL_law_225 rfl ?_
  refine go_iconst dL_law_226 rfl ?_
  refine go_iadd dL_law_227 ⟨by omega, by omega⟩ ?_
  refine go_sld dL_law_228 rfl (by omega) (by omega) ?_
  refine go_vI (ci := 8) dL_law_229 (ct_X9_place hS.1.1 _ _ _ _) ml_L_13 mc_X9_place mv_X9_place rfl (by decide) rfl rfl ⟨hBF _ rfl, rfl⟩ hKZ rfl rfl rfl (fun x1 μ1 h1 => ?_)
  have hF := cf_place h1
  refine go_aload_n dL_law_232 rfl ?_
  refine go_aload_n dL_law_233 rfl ?_
  refine go_iload_n dL_law_234 rfl ?_
  refine go_iconst dL_law_235 rfl ?_
  refine go_iadd dL_law_236 ⟨by omega, by omega⟩ ?_
  refine go_sld dL_law_237 rfl (by omega) (by omega) ?_
  refine go_aload_n dL_law_238 rfl ?_
  refine go_iload_n dL_law_239 rfl ?_
  refine go_iconst dL_law_240 rfl ?_
  refine go_iadd dL_law_241 ⟨by omega, by omega⟩ ?_
  refine go_sld dL_law_242 rfl (by omega) (by omega) ?_
  refine go_aload_n dL_law_243 rfl ?_
  refine go_iload_n dL_law_244 rfl ?_
  refine go_iconst dL_law_245 rfl ?_
  refine go_iadd dL_law_246 ⟨by omega, by omega⟩ ?_
  refine go_sld dL_law_247 rfl (by omega) (by omega) ?_
  refine go_aload_n dL_law_248 rfl ?_
  refine go_iload_n dL_law_249 rfl ?_
  refine go_iconst dL_law_250 rfl ?_
  refine go_iadd dL_law_251 ⟨by omega, by omega⟩ ?_
  refine go_sld dL_law_252 rfl (by omega) (by omega) ?_
  refine go_vI (ci := 9) dL_law_253 (ct_X10_place _ _ _ _) ml_L_17 mc_X10_place mv_X10_place rfl (by decide) rfl rfl ⟨hBF _ rfl, rfl⟩ hKZ rfl rfl rfl (fun x2 μ2 h2 => ?_)
  obtain ⟨e12, hS2⟩ := st_place _ _ _ _ hS h1 h2
  refine go_icmp_eq (tgt := 1419) dL_law_256 rfl (fun _ => ?_) (fun h => absurd e12 h)
  exact go_drop (kn μ2 hS2) rfl
set_option maxRecDepth 100000 in
set_option maxHeartbeats 4000000 in
theorem lc_1 {l : Launch} {D : va_G} {cA : Nat → ClassId} {N : Nat} {xs : Nat → Int} {BF BK BZ K Z : Nat} (hN : N ≤ 3072) (hxs : ∀ j, iR (xs j)) (hB79 : 79 ≤ BF) (hKZ : K ≤ BK ∧ Z ≤ BZ) {i : Int} {μ : Mem} (i0 : 0 ≤ i) (i1 : i + 6 ≤ (N : Nat)) (hS : Sim μ) (kn : ∀ μ2, Sim μ2 → Go l D cA (some (N, xs)) RL cL_law 4 (some .boolean) (BF, BK, BZ) (fun r _ _ _ => r = some (vi 1)) 113 ρ0 K Z 1419 [(0, vr 1020), (1, vr 0), (2, vr 87), (3, vi i)] [] μ2) : Go l D cA (some (N, xs)) RL cL_law 4 (some .boolean) (BF, BK, BZ) (fun r _ _ _ => r = some (vi 1)) 113 ρ0 K Z 261 [(0, vr 1020), (1, vr 0), (2, vr 87), (3, vi i)] [] μ := by
  have hBF : ∀ d : Nat, Nat.ble (d + 1) 79 = true → Nat.ble (d + 1) BF = true := fun d h => Nat.ble_eq_true_of_le (Nat.le_trans (Nat.le_of_ble_eq_true h) hB79)
  refine go_aload_n dL_law_261 rfl ?_
  refine go_aload_n dL_law_262 rfl ?_
  refine go_iload_n dL_law_263 rfl ?_
  refine go_iconst dL_law_264 rfl ?_
  refine go_iadd dL_law_265 ⟨by omega, by omega⟩ ?_
  refine go_sld dL_law_266 rfl (by omega) (by omega) ?_
  refine go_aload_n dL_law_267 rfl ?_
  refine go_iload_n dL_law_268 rfl ?_
  refine go_iconst dL_law_269 rfl ?_
  refine go_iadd dL_law_270 ⟨by omega, by omega⟩ ?_
  refine go_sld dL_law_271 rfl (by omega) (by omega) ?_
  refine go_vI (ci := 8) dL_law_272 (ct_X9_told hS.1.1 _ _) ml_L_18 mc_X9_told mv_X9_told rfl (by decide) rfl rfl ⟨hBF _ rfl, rfl⟩ hKZ rfl rfl rfl (fun x1 μ1 h1 => ?_)
  have hF := cf_told h1
  refine go_aload_n dL_law_275 rfl ?_
  refine go_aload_n dL_law_276 rfl ?_
  refine go_iload_n dL_law_277 rfl ?_
  refine go_iconst dL_law_278 rfl ?_
  refine go_iadd dL_law_279 ⟨by omega, by omega⟩ ?_
  refine go_sld dL_law_280 rfl (by omega) (by omega) ?_
  refine go_aload_n dL_law_281 rfl ?_
  refine go_iload_n dL_law_282 rfl ?_
  refine go_iconst dL_law_283 rfl ?_
  refine go_iadd dL_law_284 ⟨by omega, by omega⟩ ?_
  refine go_sld dL_law_285 rfl (by omega) (by omega) ?_
  refine go_vI (ci := 9) dL_law_286 (ct_X10_told (si_md hS hF) _ _) ml_L_22 mc_X10_told mv_X10_told rfl (by decide) rfl rfl ⟨hBF _ rfl, rfl⟩ hKZ rfl rfl rfl (fun x2 μ2 h2 => ?_)
  obtain ⟨e12, hS2⟩ := st_told _ _ hS h1 h2
  refine go_icmp_eq (tgt := 1419) dL_law_289 rfl (fun _ => ?_) (fun h => absurd e12 h)
  exact go_drop (kn μ2 hS2) rfl
set_option maxRecDepth 100000 in
set_option maxHeartbeats 4000000 in
theorem lc_2 {l : Launch} {D : va_G} {cA : Nat → ClassId} {N : Nat} {xs : Nat → Int} {BF BK BZ K Z : Nat} (hN : N ≤ 3072) (hxs : ∀ j, iR (xs j)) (hB79 : 79 ≤ BF) (hKZ : K ≤ BK ∧ Z ≤ BZ) {i : Int} {μ : Mem} (i0 : 0 ≤ i) (i1 : i + 6 ≤ (N : Nat)) (hS : Sim μ) (kn : ∀ μ2, Sim μ2 → Go l D cA (some (N, xs)) RL cL_law 4 (some .boolean) (BF, BK, BZ) (fun r _ _ _ => r = some (vi 1)) 113 ρ0 K Z 1419 [(0, vr 1020), (1, vr 0), (2, vr 87), (3, vi i)] [] μ2) : Go l D cA (some (N, xs)) RL cL_law 4 (some .boolean) (BF, BK, BZ) (fun r _ _ _ => r = some (vi 1)) 113 ρ0 K Z 294 [(0, vr 1020), (1, vr 0), (2, vr 87), (3, vi i)] [] μ := by
  have hBF : ∀ d : Nat, Nat.ble (d + 1) 79 = true → Nat.ble (d + 1) BF = true := fun d h => Nat.ble_eq_true_of_le (Nat.le_trans (Nat.le_of_ble_eq_true h) hB79)
  refine go_aload_n dL_law_294 rfl ?_
  refine go_aload_n dL_law_295 rfl ?_
  refine go_iload_n dL_law_296 rfl ?_
  refine go_iconst dL_law_297 rfl ?_
  refine go_iadd dL_law_298 ⟨by omega, by omega⟩ ?_
  refine go_sld dL_law_299 rfl (by omega) (by omega) ?_
  refine go_aload_n dL_law_300 rfl ?_
  refine go_iload_n dL_law_301 rfl ?_
  refine go_iconst dL_law_302 rfl ?_
  refine go_iadd dL_law_303 ⟨by omega, by omega⟩ ?_
  refine go_sld dL_law_304 rfl (by omega) (by omega) ?_
  refine go_vI (ci := 8) dL_law_305 (ct_X9_as hS.1.1 _ _) ml_L_23 mc_X9_as mv_X9_as rfl (by decide) rfl rfl ⟨hBF _ rfl, rfl⟩ hKZ rfl rfl rfl (fun x1 μ1 h1 => ?_)
  have hF := cf_as h1
  refine go_aload_n dL_law_308 rfl ?_
  refine go_aload_n dL_law_309 rfl ?_
  refine go_iload_n dL_law_310 rfl ?_
  refine go_iconst dL_law_311 rfl ?_
  refine go_iadd dL_law_312 ⟨by omega, by omega⟩ ?_
  refine go_sld dL_law_313 rfl (by omega) (by omega) ?_
  refine go_aload_n dL_law_314 rfl ?_
  refine go_iload_n dL_law_315 rfl ?_
  refine go_iconst dL_law_316 rfl ?_
  refine go_iadd dL_law_317 ⟨by omega, by omega⟩ ?_
  refine go_sld dL_law_318 rfl (by omega) (by omega) ?_
  refine go_vI (ci := 9) dL_law_319 (ct_X10_as _ _) ml_L_26 mc_X10_as mv_X10_as rfl (by decide) rfl rfl ⟨hBF _ rfl, rfl⟩ hKZ rfl rfl rfl (fun x2 μ2 h2 => ?_)
  obtain ⟨e12, hS2⟩ := st_as _ _ hS h1 h2
  refine go_icmp_eq (tgt := 1419) dL_law_322 rfl (fun _ => ?_) (fun h => absurd e12 h)
  exact go_drop (kn μ2 hS2) rfl
set_option maxRecDepth 100000 in
set_option maxHeartbeats 4000000 in
theorem lc_3 {l : Launch} {D : va_G} {cA : Nat → ClassId} {N : Nat} {xs : Nat → Int} {BF BK BZ K Z : Nat} (hN : N ≤ 3072) (hxs : ∀ j, iR (xs j)) (hB79 : 79 ≤ BF) (hKZ : K ≤ BK ∧ Z ≤ BZ) {i : Int} {μ : Mem} (i0 : 0 ≤ i) (i1 : i + 6 ≤ (N : Nat)) (hS : Sim μ) (kn : ∀ μ2, Sim μ2 → Go l D cA (some (N, xs)) RL cL_law 4 (some .boolean) (BF, BK, BZ) (fun r _ _ _ => r = some (vi 1)) 113 ρ0 K Z 1419 [(0, vr 1020), (1, vr 0), (2, vr 87), (3, vi i)] [] μ2) : Go l D cA (some (N, xs)) RL cL_law 4 (some .boolean) (BF, BK, BZ) (fun r _ _ _ => r = some (vi 1)) 113 ρ0 K Z 327 [(0, vr 1020), (1, vr 0), (2, vr 87), (3, vi i)] [] μ := by
  have hBF : ∀ d : Nat, Nat.ble (d + 1) 79 = true → Nat.ble (d + 1) BF = true := fun d h => Nat.ble_eq_true_of_le (Nat.le_trans (Nat.le_of_ble_eq_true h) hB79)
  refine go_aload_n dL_law_327 rfl ?_
  refine go_aload_n dL_law_328 rfl ?_
  refine go_iload_n dL_law_329 rfl ?_
  refine go_iconst dL_law_330 rfl ?_
  refine go_iadd dL_law_331 ⟨by omega, by omega⟩ ?_
  refine go_sld dL_law_332 rfl (by omega) (by omega) ?_
  refine go_aload_n dL_law_333 rfl ?_
  refine go_iload_n dL_law_334 rfl ?_
  refine go_iconst dL_law_335 rfl ?_
  refine go_iadd dL_law_336 ⟨by omega, by omega⟩ ?_
  refine go_sld dL_law_337 rfl (by omega) (by omega) ?_
  refine go_vI (ci := 8) dL_law_338 (ct_X9_turns hS.1.1 _ _) ml_L_27 mc_X9_turns mv_X9_turns rfl (by decide) rfl rfl ⟨hBF _ rfl, rfl⟩ hKZ rfl rfl rfl (fun x1 μ1 h1 => ?_)
  have hF := cf_turns h1
  refine go_aload_n dL_law_341 rfl ?_
  refine go_aload_n dL_law_342 rfl ?_
  refine go_iload_n dL_law_343 rfl ?_
  refine go_iconst dL_law_344 rfl ?_
  refine go_iadd dL_law_345 ⟨by omega, by omega⟩ ?_
  refine go_sld dL_law_346 rfl (by omega) (by omega) ?_
  refine go_aload_n dL_law_347 rfl ?_
  refine go_iload_n dL_law_348 rfl ?_
  refine go_iconst dL_law_349 rfl ?_
  refine go_iadd dL_law_350 ⟨by omega, by omega⟩ ?_
  refine go_sld dL_law_351 rfl (by omega) (by omega) ?_
  refine go_vI (ci := 9) dL_law_352 (ct_X10_turns _ _) ml_L_30 mc_X10_turns mv_X10_turns rfl (by decide) rfl rfl ⟨hBF _ rfl, rfl⟩ hKZ rfl rfl rfl (fun x2 μ2 h2 => ?_)
  obtain ⟨e12, hS2⟩ := st_turns _ _ hS h1 h2
  refine go_icmp_eq (tgt := 1419) dL_law_355 rfl (fun _ => ?_) (fun h => absurd e12 h)
  exact go_drop (kn μ2 hS2) rfl
set_option maxRecDepth 100000 in
set_option maxHeartbeats 4000000 in
theorem lc_4 {l : Launch} {D : va_G} {cA : Nat → ClassId} {N : Nat} {xs : Nat → Int} {BF BK BZ K Z : Nat} (hN : N ≤ 3072) (hxs : ∀ j, iR (xs j)) (hB79 : 79 ≤ BF) (hKZ : K ≤ BK ∧ Z ≤ BZ) {i : Int} {μ : Mem} (i0 : 0 ≤ i) (i1 : i + 6 ≤ (N : Nat)) (hS : Sim μ) (kn : ∀ μ2, Sim μ2 → Go l D cA (some (N, xs)) RL cL_law 4 (some .boolean) (BF, BK, BZ) (fun r _ _ _ => r = some (vi 1)) 113 ρ0 K Z 1419 [(0, vr 1020), (1, vr 0), (2, vr 87), (3, vi i)] [] μ2) : Go l D cA (some (N, xs)) RL cL_law 4 (some .boolean) (BF, BK, BZ) (fun r _ _ _ => r = some (vi 1)) 113 ρ0 K Z 360 [(0, vr 1020), (1, vr 0), (2, vr 87), (3, vi i)] [] μ := by
  have hBF : ∀ d : Nat, Nat.ble (d + 1) 79 = true → Nat.ble (d + 1) BF = true := fun d h => Nat.ble_eq_true_of_le (Nat.le_trans (Nat.le_of_ble_eq_true h) hB79)
  refine go_aload_n dL_law_360 rfl ?_
  refine go_aload_n dL_law_361 rfl ?_
  refine go_iload_n dL_law_362 rfl ?_
  refine go_iconst dL_law_363 rfl ?_
  refine go_iadd dL_law_364 ⟨by omega, by omega⟩ ?_
  refine go_sld dL_law_365 rfl (by omega) (by omega) ?_
  refine go_aload_n dL_law_366 rfl ?_
  refine go_iload_n dL_law_367 rfl ?_
  refine go_iconst dL_law_368 rfl ?_
  refine go_iadd dL_law_369 ⟨by omega, by omega⟩ ?_
  refine go_sld dL_law_370 rfl (by omega) (by omega) ?_
  refine go_aload_n dL_law_371 rfl ?_
  refine go_iload_n dL_law_372 rfl ?_
  refine go_iconst dL_law_373 rfl ?_
  refine go_iadd dL_law_374 ⟨by omega, by omega⟩ ?_
  refine go_sld dL_law_375 rfl (by omega) (by omega) ?_
  refine go_vI (ci := 8) dL_law_376 (ct_X9_set hS.1.1 _ _ _) ml_L_31 mc_X9_set mv_X9_set rfl (by decide) rfl rfl ⟨hBF _ rfl, rfl⟩ hKZ rfl rfl rfl (fun x1 μ1 h1 => ?_)
  have hF := cf_set h1
  refine go_aload_n dL_law_379 rfl ?_
  refine go_aload_n dL_law_380 rfl ?_
  refine go_iload_n dL_law_381 rfl ?_
  refine go_iconst dL_law_382 rfl ?_
  refine go_iadd dL_law_383 ⟨by omega, by omega⟩ ?_
  refine go_sld dL_law_384 rfl (by omega) (by omega) ?_
  refine go_aload_n dL_law_385 rfl ?_
  refine go_iload_n dL_law_386 rfl ?_
  refine go_iconst dL_law_387 rfl ?_
  refine go_iadd dL_law_388 ⟨by omega, by omega⟩ ?_
  refine go_sld dL_law_389 rfl (by omega) (by omega) ?_
  refine go_aload_n dL_law_390 rfl ?_
  refine go_iload_n dL_law_391 rfl ?_
  refine go_iconst dL_law_392 rfl ?_
  refine go_iadd dL_law_393 ⟨by omega, by omega⟩ ?_
  refine go_sld dL_law_394 rfl (by omega) (by omega) ?_
  refine go_vI (ci := 9) dL_law_395 (ct_X10_set _ _ _) ml_L_35 mc_X10_set mv_X10_set rfl (by decide) rfl rfl ⟨hBF _ rfl, rfl⟩ hKZ rfl rfl rfl (fun x2 μ2 h2 => ?_)
  obtain ⟨e12, hS2⟩ := st_set _ _ _ hS h1 h2
  refine go_icmp_eq (tgt := 1419) dL_law_398 rfl (fun _ => ?_) (fun h => absurd e12 h)
  exact go_drop (kn μ2 hS2) rfl
set_option maxRecDepth 100000 in
set_option maxHeartbeats 4000000 in
theorem lc_5 {l : Launch} {D : va_G} {cA : Nat → ClassId} {N : Nat} {xs : Nat → Int} {BF BK BZ K Z : Nat} (hN : N ≤ 3072) (hxs : ∀ j, iR (xs j)) (hB79 : 79 ≤ BF) (hKZ : K ≤ BK ∧ Z ≤ BZ) {i : Int} {μ : Mem} (i0 : 0 ≤ i) (i1 : i + 6 ≤ (N : Nat)) (hS : Sim μ) (kn : ∀ μ2, Sim μ2 → Go l D cA (some (N, xs)) RL cL_law 4 (some .boolean) (BF, BK, BZ) (fun r _ _ _ => r = some (vi 1)) 113 ρ0 K Z 1419 [(0, vr 1020), (1, vr 0), (2, vr 87), (3, vi i)] [] μ2) : Go l D cA (some (N, xs)) RL cL_law 4 (some .boolean) (BF, BK, BZ) (fun r _ _ _ => r = some (vi 1)) 113 ρ0 K Z 403 [(0, vr 1020), (1, vr 0), (2, vr 87), (3, vi i)] [] μ := by
  have hBF : ∀ d : Nat, Nat.ble (d + 1) 79 = true → Nat.ble (d + 1) BF = true := fun d h => Nat.ble_eq_true_of_le (Nat.le_trans (Nat.le_of_ble_eq_true h) hB79)
  refine go_aload_n dL_law_403 rfl ?_
  refine go_aload_n dL_law_404 rfl ?_
  refine go_iload_n dL_law_405 rfl ?_
  refine go_iconst dL_law_406 rfl ?_
  refine go_iadd dL_law_407 ⟨by omega, by omega⟩ ?_
  refine go_sld dL_law_408 rfl (by omega) (by omega) ?_
  refine go_aload_n dL_law_409 rfl ?_
  refine go_iload_n dL_law_410 rfl ?_
  refine go_iconst dL_law_411 rfl ?_
  refine go_iadd dL_law_412 ⟨by omega, by omega⟩ ?_
  refine go_sld dL_law_413 rfl (by omega) (by omega) ?_
  refine go_vI (ci := 8) dL_law_414 (ct_X9_today hS.1.1 _ _) ml_L_36 mc_X9_today mv_X9_today rfl (by decide) rfl rfl ⟨hBF _ rfl, rfl⟩ hKZ rfl rfl rfl (fun x1 μ1 h1 => ?_)
  have hF := cf_today h1
  refine go_aload_n dL_law_417 rfl ?_
  refine go_aload_n dL_law_418 rfl ?_
  refine go_iload_n dL_law_419 rfl ?_
  refine go_iconst dL_law_420 rfl ?_
  refine go_iadd dL_law_421 ⟨by omega, by omega⟩ ?_
  refine go_sld dL_law_422 rfl (by omega) (by omega) ?_
  refine go_aload_n dL_law_423 rfl ?_
  refine go_iload_n dL_law_424 rfl ?_
  refine go_iconst dL_law_425 rfl ?_
  refine go_iadd dL_law_426 ⟨by omega, by omega⟩ ?_
  refine go_sld dL_law_427 rfl (by omega) (by omega) ?_
  refine go_vI (ci := 9) dL_law_428 (ct_X10_today _ _) ml_L_39 mc_X10_today mv_X10_today rfl (by decide) rfl rfl ⟨hBF _ rfl, rfl⟩ hKZ rfl rfl rfl (fun x2 μ2 h2 => ?_)
  obtain ⟨e12, hS2⟩ := st_today _ _ hS h1 h2
  refine go_icmp_eq (tgt := 1419) dL_law_431 rfl (fun _ => ?_) (fun h => absurd e12 h)
  exact go_drop (kn μ2 hS2) rfl
set_option maxRecDepth 100000 in
set_option maxHeartbeats 4000000 in
theorem lc_6 {l : Launch} {D : va_G} {cA : Nat → ClassId} {N : Nat} {xs : Nat → Int} {BF BK BZ K Z : Nat} (hN : N ≤ 3072) (hxs : ∀ j, iR (xs j)) (hB79 : 79 ≤ BF) (hKZ : K ≤ BK ∧ Z ≤ BZ) {i : Int} {μ : Mem} (i0 : 0 ≤ i) (i1 : i + 6 ≤ (N : Nat)) (hS : Sim μ) (kn : ∀ μ2, Sim μ2 → Go l D cA (some (N, xs)) RL cL_law 4 (some .boolean) (BF, BK, BZ) (fun r _ _ _ => r = some (vi 1)) 113 ρ0 K Z 1419 [(0, vr 1020), (1, vr 0), (2, vr 87), (3, vi i)] [] μ2) : Go l D cA (some (N, xs)) RL cL_law 4 (some .boolean) (BF, BK, BZ) (fun r _ _ _ => r = some (vi 1)) 113 ρ0 K Z 436 [(0, vr 1020), (1, vr 0), (2, vr 87), (3, vi i)] [] μ := by
  have hBF : ∀ d : Nat, Nat.ble (d + 1) 79 = true → Nat.ble (d + 1) BF = true := fun d h => Nat.ble_eq_true_of_le (Nat.le_trans (Nat.le_of_ble_eq_true h) hB79)
  refine go_aload_n dL_law_436 rfl ?_
  refine go_vI (ci := 8) dL_law_437 (ct_X9_deal hS.1.1) ml_L_40 mc_X9_deal mv_X9_deal rfl (by decide) rfl rfl ⟨hBF _ rfl, rfl⟩ hKZ rfl rfl rfl (fun x1 μ1 h1 => ?_)
  have hF := cf_deal h1
  refine go_aload_n dL_law_440 rfl ?_
  refine go_vI (ci := 9) dL_law_441 (ct_X10_deal ) ml_L_44 mc_X10_deal mv_X10_deal rfl (by decide) rfl rfl ⟨hBF _ rfl, rfl⟩ hKZ rfl rfl rfl (fun x2 μ2 h2 => ?_)
  obtain ⟨e12, hS2⟩ := st_deal  hS h1 h2
  refine go_icmp_eq (tgt := 1419) dL_law_444 rfl (fun _ => ?_) (fun h => absurd e12 h)
  exact go_drop (kn μ2 hS2) rfl
set_option maxRecDepth 100000 in
set_option maxHeartbeats 4000000 in
theorem lc_7 {l : Launch} {D : va_G} {cA : Nat → ClassId} {N : Nat} {xs : Nat → Int} {BF BK BZ K Z : Nat} (hN : N ≤ 3072) (hxs : ∀ j, iR (xs j)) (hB79 : 79 ≤ BF) (hKZ : K ≤ BK ∧ Z ≤ BZ) {i : Int} {μ : Mem} (i0 : 0 ≤ i) (i1 : i + 6 ≤ (N : Nat)) (hS : Sim μ) (kn : ∀ μ2, Sim μ2 → Go l D cA (some (N, xs)) RL cL_law 4 (some .boolean) (BF, BK, BZ) (fun r _ _ _ => r = some (vi 1)) 113 ρ0 K Z 1419 [(0, vr 1020), (1, vr 0), (2, vr 87), (3, vi i)] [] μ2) : Go l D cA (some (N, xs)) RL cL_law 4 (some .boolean) (BF, BK, BZ) (fun r _ _ _ => r = some (vi 1)) 113 ρ0 K Z 449 [(0, vr 1020), (1, vr 0), (2, vr 87), (3, vi i)] [] μ := by
  have hBF : ∀ d : Nat, Nat.ble (d + 1) 79 = true → Nat.ble (d + 1) BF = true := fun d h => Nat.ble_eq_true_of_le (Nat.le_trans (Nat.le_of_ble_eq_true h) hB79)
  refine go_aload_n dL_law_449 rfl ?_
  refine go_aload_n dL_law_450 rfl ?_
  refine go_iload_n dL_law_451 rfl ?_
  refine go_iconst dL_law_452 rfl ?_
  refine go_iadd dL_law_453 ⟨by omega, by omega⟩ ?_
  refine go_sld dL_law_454 rfl (by omega) (by omega) ?_
  refine go_vI (ci := 8) dL_law_455 (ct_X9_seed hS.1.1 _) ml_L_45 mc_X9_seed mv_X9_seed rfl (by decide) rfl rfl ⟨hBF _ rfl, rfl⟩ hKZ rfl rfl rfl (fun x1 μ1 h1 => ?_)
  have hF := cf_seed h1
  refine go_aload_n dL_law_458 rfl ?_
  refine go_aload_n dL_law_459 rfl ?_
  refine go_iload_n dL_law_460 rfl ?_
  refine go_iconst dL_law_461 rfl ?_
  refine go_iadd dL_law_462 ⟨by omega, by omega⟩ ?_
  refine go_sld dL_law_463 rfl (by omega) (by omega) ?_
  refine go_vI (ci := 9) dL_law_464 (ct_X10_seed _) ml_L_49 mc_X10_seed mv_X10_seed rfl (by decide) rfl rfl ⟨hBF _ rfl, rfl⟩ hKZ rfl rfl rfl (fun x2 μ2 h2 => ?_)
  obtain ⟨e12, hS2⟩ := st_seed _ hS h1 h2
  refine go_icmp_eq (tgt := 1419) dL_law_467 rfl (fun _ => ?_) (fun h => absurd e12 h)
  exact go_drop (kn μ2 hS2) rfl
set_option maxRecDepth 100000 in
set_option maxHeartbeats 4000000 in
theorem lc_8 {l : Launch} {D : va_G} {cA : Nat → ClassId} {N : Nat} {xs : Nat → Int} {BF BK BZ K Z : Nat} (hN : N ≤ 3072) (hxs : ∀ j, iR (xs j)) (hB79 : 79 ≤ BF) (hKZ : K ≤ BK ∧ Z ≤ BZ) {i : Int} {μ : Mem} (i0 : 0 ≤ i) (i1 : i + 6 ≤ (N : Nat)) (hS : Sim μ) (kn : ∀ μ2, Sim μ2 → Go l D cA (some (N, xs)) RL cL_law 4 (some .boolean) (BF, BK, BZ) (fun r _ _ _ => r = some (vi 1)) 113 ρ0 K Z 1419 [(0, vr 1020), (1, vr 0), (2, vr 87), (3, vi i)] [] μ2) : Go l D cA (some (N, xs)) RL cL_law 4 (some .boolean) (BF, BK, BZ) (fun r _ _ _ => r = some (vi 1)) 113 ρ0 K Z 472 [(0, vr 1020), (1, vr 0), (2, vr 87), (3, vi i)] [] μ := by
  have hBF : ∀ d : Nat, Nat.ble (d + 1) 79 = true → Nat.ble (d + 1) BF = true := fun d h => Nat.ble_eq_true_of_le (Nat.le_trans (Nat.le_of_ble_eq_true h) hB79)
  refine go_aload_n dL_law_472 rfl ?_
  refine go_aload_n dL_law_473 rfl ?_
  refine go_iload_n dL_law_474 rfl ?_
  refine go_iconst dL_law_475 rfl ?_
  refine go_iadd dL_law_476 ⟨by omega, by omega⟩ ?_
  refine go_sld dL_law_477 rfl (by omega) (by omega) ?_
  refine go_vI (ci := 8) dL_law_478 (ct_X9_run hS.1.1 _) ml_L_50 mc_X9_run mv_X9_run rfl (by decide) rfl rfl ⟨hBF _ rfl, rfl⟩ hKZ rfl rfl rfl (fun x1 μ1 h1 => ?_)
  have hF := cf_run h1
  refine go_aload_n dL_law_481 rfl ?_
  refine go_aload_n dL_law_482 rfl ?_
  refine go_iload_n dL_law_483 rfl ?_
  refine go_iconst dL_law_484 rfl ?_
  refine go_iadd dL_law_485 ⟨by omega, by omega⟩ ?_
  refine go_sld dL_law_486 rfl (by omega) (by omega) ?_
  refine go_vI (ci := 9) dL_law_487 (ct_X10_run (si_md hS hF) _) ml_L_53 mc_X10_run mv_X10_run rfl (by decide) rfl rfl ⟨hBF _ rfl, rfl⟩ hKZ rfl rfl rfl (fun x2 μ2 h2 => ?_)
  obtain ⟨e12, hS2⟩ := st_run _ hS h1 h2
  refine go_icmp_eq (tgt := 1419) dL_law_490 rfl (fun _ => ?_) (fun h => absurd e12 h)
  exact go_drop (kn μ2 hS2) rfl
set_option maxRecDepth 100000 in
set_option maxHeartbeats 4000000 in
theorem lc_9 {l : Launch} {D : va_G} {cA : Nat → ClassId} {N : Nat} {xs : Nat → Int} {BF BK BZ K Z : Nat} (hN : N ≤ 3072) (hxs : ∀ j, iR (xs j)) (hB79 : 79 ≤ BF) (hKZ : K ≤ BK ∧ Z ≤ BZ) {i : Int} {μ : Mem} (i0 : 0 ≤ i) (i1 : i + 6 ≤ (N : Nat)) (hS : Sim μ) (kn : ∀ μ2, Sim μ2 → Go l D cA (some (N, xs)) RL cL_law 4 (some .boolean) (BF, BK, BZ) (fun r _ _ _ => r = some (vi 1)) 113 ρ0 K Z 1419 [(0, vr 1020), (1, vr 0), (2, vr 87), (3, vi i)] [] μ2) : Go l D cA (some (N, xs)) RL cL_law 4 (some .boolean) (BF, BK, BZ) (fun r _ _ _ => r = some (vi 1)) 113 ρ0 K Z 495 [(0, vr 1020), (1, vr 0), (2, vr 87), (3, vi i)] [] μ := by
  have hBF : ∀ d : Nat, Nat.ble (d + 1) 79 = true → Nat.ble (d + 1) BF = true := fun d h => Nat.ble_eq_true_of_le (Nat.le_trans (Nat.le_of_ble_eq_true h) hB79)
  refine go_aload_n dL_law_495 rfl ?_
  refine go_aload_n dL_law_496 rfl ?_
  refine go_iload_n dL_law_497 rfl ?_
  refine go_iconst dL_law_498 rfl ?_
  refine go_iadd dL_law_499 ⟨by omega, by omega⟩ ?_
  refine go_sld dL_law_500 rfl (by omega) (by omega) ?_
  refine go_aload_n dL_law_501 rfl ?_
  refine go_iload_n dL_law_502 rfl ?_
  refine go_iconst dL_law_503 rfl ?_
  refine go_iadd dL_law_504 ⟨by omega, by omega⟩ ?_
  refine go_sld dL_law_505 rfl (by omega) (by omega) ?_
  refine go_vI (ci := 8) dL_law_506 (ct_X9_ahead hS.1.1 _ _) ml_L_54 mc_X9_ahead mv_X9_ahead rfl (by decide) rfl rfl ⟨hBF _ rfl, rfl⟩ hKZ rfl rfl rfl (fun x1 μ1 h1 => ?_)
  have hF := cf_ahead h1
  refine go_aload_n dL_law_509 rfl ?_
  refine go_aload_n dL_law_510 rfl ?_
  refine go_iload_n dL_law_511 rfl ?_
  refine go_iconst dL_law_512 rfl ?_
  refine go_iadd dL_law_513 ⟨by omega, by omega⟩ ?_
  refine go_sld dL_law_514 rfl (by omega) (by omega) ?_
  refine go_aload_n dL_law_515 rfl ?_
  refine go_iload_n dL_law_516 rfl ?_
  refine go_iconst dL_law_517 rfl ?_
  refine go_iadd dL_law_518 ⟨by omega, by omega⟩ ?_
  refine go_sld dL_law_519 rfl (by omega) (by omega) ?_
  refine go_vI (ci := 9) dL_law_520 (ct_X10_ahead (si_md hS hF) _ _) ml_L_57 mc_X10_ahead mv_X10_ahead rfl (by decide) rfl rfl ⟨hBF _ rfl, rfl⟩ hKZ rfl rfl rfl (fun x2 μ2 h2 => ?_)
  obtain ⟨e12, hS2⟩ := st_ahead _ _ hS h1 h2
  refine go_icmp_eq (tgt := 1419) dL_law_523 rfl (fun _ => ?_) (fun h => absurd e12 h)
  exact go_drop (kn μ2 hS2) rfl
set_option maxRecDepth 100000 in
set_option maxHeartbeats 4000000 in
theorem lc_10 {l : Launch} {D : va_G} {cA : Nat → ClassId} {N : Nat} {xs : Nat → Int} {BF BK BZ K Z : Nat} (hN : N ≤ 3072) (hxs : ∀ j, iR (xs j)) (hB79 : 79 ≤ BF) (hKZ : K ≤ BK ∧ Z ≤ BZ) {i : Int} {μ : Mem} (i0 : 0 ≤ i) (i1 : i + 6 ≤ (N : Nat)) (hS : Sim μ) (kn : ∀ μ2, Sim μ2 → Go l D cA (some (N, xs)) RL cL_law 4 (some .boolean) (BF, BK, BZ) (fun r _ _ _ => r = some (vi 1)) 113 ρ0 K Z 1419 [(0, vr 1020), (1, vr 0), (2, vr 87), (3, vi i)] [] μ2) : Go l D cA (some (N, xs)) RL cL_law 4 (some .boolean) (BF, BK, BZ) (fun r _ _ _ => r = some (vi 1)) 113 ρ0 K Z 528 [(0, vr 1020), (1, vr 0), (2, vr 87), (3, vi i)] [] μ := by
  have hBF : ∀ d : Nat, Nat.ble (d + 1) 79 = true → Nat.ble (d + 1) BF = true := fun d h => Nat.ble_eq_true_of_le (Nat.le_trans (Nat.le_of_ble_eq_true h) hB79)
  refine go_aload_n dL_law_528 rfl ?_
  refine go_vI (ci := 8) dL_law_529 (ct_X9_calm hS.1.1) ml_L_58 mc_X9_calm mv_X9_calm rfl (by decide) rfl rfl ⟨hBF _ rfl, rfl⟩ hKZ rfl rfl rfl (fun x1 μ1 h1 => ?_)
  have hF := cf_calm h1
  refine go_aload_n dL_law_532 rfl ?_
  refine go_vI (ci := 9) dL_law_533 (ct_X10_calm (si_md hS hF)) ml_L_61 mc_X10_calm mv_X10_calm rfl (by decide) rfl rfl ⟨hBF _ rfl, rfl⟩ hKZ rfl rfl rfl (fun x2 μ2 h2 => ?_)
  obtain ⟨e12, hS2⟩ := st_calm  hS h1 h2
  refine go_icmp_eq (tgt := 1419) dL_law_536 rfl (fun _ => ?_) (fun h => absurd e12 h)
  exact go_drop (kn μ2 hS2) rfl
set_option maxRecDepth 100000 in
set_option maxHeartbeats 4000000 in
theorem lc_11 {l : Launch} {D : va_G} {cA : Nat → ClassId} {N : Nat} {xs : Nat → Int} {BF BK BZ K Z : Nat} (hN : N ≤ 3072) (hxs : ∀ j, iR (xs j)) (hB79 : 79 ≤ BF) (hKZ : K ≤ BK ∧ Z ≤ BZ) {i : Int} {μ : Mem} (i0 : 0 ≤ i) (i1 : i + 6 ≤ (N : Nat)) (hS : Sim μ) (kn : ∀ μ2, Sim μ2 → Go l D cA (some (N, xs)) RL cL_law 4 (some .boolean) (BF, BK, BZ) (fun r _ _ _ => r = some (vi 1)) 113 ρ0 K Z 1419 [(0, vr 1020), (1, vr 0), (2, vr 87), (3, vi i)] [] μ2) : Go l D cA (some (N, xs)) RL cL_law 4 (some .boolean) (BF, BK, BZ) (fun r _ _ _ => r = some (vi 1)) 113 ρ0 K Z 541 [(0, vr 1020), (1, vr 0), (2, vr 87), (3, vi i)] [] μ := by
  have hBF : ∀ d : Nat, Nat.ble (d + 1) 79 = true → Nat.ble (d + 1) BF = true := fun d h => Nat.ble_eq_true_of_le (Nat.le_trans (Nat.le_of_ble_eq_true h) hB79)
  refine go_aload_n dL_law_541 rfl ?_
  refine go_aload_n dL_law_542 rfl ?_
  refine go_iload_n dL_law_543 rfl ?_
  refine go_iconst dL_law_544 rfl ?_
  refine go_iadd dL_law_545 ⟨by omega, by omega⟩ ?_
  refine go_sld dL_law_546 rfl (by omega) (by omega) ?_
  refine go_vI (ci := 8) dL_law_547 (ct_X9_track hS.1.1 _) ml_L_62 mc_X9_track mv_X9_track rfl (by decide) rfl rfl ⟨hBF _ rfl, rfl⟩ hKZ rfl rfl rfl (fun x1 μ1 h1 => ?_)
  have hF := cf_track h1
  refine go_aload_n dL_law_550 rfl ?_
  refine go_aload_n dL_law_551 rfl ?_
  refine go_iload_n dL_law_552 rfl ?_
  refine go_iconst dL_law_553 rfl ?_
  refine go_iadd dL_law_554 ⟨by omega, by omega⟩ ?_
  refine go_sld dL_law_555 rfl (by omega) (by omega) ?_
  refine go_vI (ci := 9) dL_law_556 (ct_X10_track (si_md hS hF) _) ml_L_65 mc_X10_track mv_X10_track rfl (by decide) rfl rfl ⟨hBF _ rfl, rfl⟩ hKZ rfl rfl rfl (fun x2 μ2 h2 => ?_)
  obtain ⟨e12, hS2⟩ := st_track _ hS h1 h2
  refine go_icmp_eq (tgt := 1419) dL_law_559 rfl (fun _ => ?_) (fun h => absurd e12 h)
  exact go_drop (kn μ2 hS2) rfl
set_option maxRecDepth 100000 in
set_option maxHeartbeats 4000000 in
theorem lc_12 {l : Launch} {D : va_G} {cA : Nat → ClassId} {N : Nat} {xs : Nat → Int} {BF BK BZ K Z : Nat} (hN : N ≤ 3072) (hxs : ∀ j, iR (xs j)) (hB79 : 79 ≤ BF) (hKZ : K ≤ BK ∧ Z ≤ BZ) {i : Int} {μ : Mem} (i0 : 0 ≤ i) (i1 : i + 6 ≤ (N : Nat)) (hS : Sim μ) (kn : ∀ μ2, Sim μ2 → Go l D cA (some (N, xs)) RL cL_law 4 (some .boolean) (BF, BK, BZ) (fun r _ _ _ => r = some (vi 1)) 113 ρ0 K Z 1419 [(0, vr 1020), (1, vr 0), (2, vr 87), (3, vi i)] [] μ2) : Go l D cA (some (N, xs)) RL cL_law 4 (some .boolean) (BF, BK, BZ) (fun r _ _ _ => r = some (vi 1)) 113 ρ0 K Z 564 [(0, vr 1020), (1, vr 0), (2, vr 87), (3, vi i)] [] μ := by
  have hBF : ∀ d : Nat, Nat.ble (d + 1) 79 = true → Nat.ble (d + 1) BF = true := fun d h => Nat.ble_eq_true_of_le (Nat.le_trans (Nat.le_of_ble_eq_true h) hB79)
  refine go_aload_n dL_law_564 rfl ?_
  refine go_vI (ci := 8) dL_law_565 (ct_X9_wipe hS.1.1) ml_L_66 mc_X9_wipe mv_X9_wipe rfl (by decide) rfl rfl ⟨hBF _ rfl, rfl⟩ hKZ rfl rfl rfl (fun x1 μ1 h1 => ?_)
  have hF := cf_wipe h1
  refine go_aload_n dL_law_568 rfl ?_
  refine go_vI (ci := 9) dL_law_569 (ct_X10_wipe ) ml_L_69 mc_X10_wipe mv_X10_wipe rfl (by decide) rfl rfl ⟨hBF _ rfl, rfl⟩ hKZ rfl rfl rfl (fun x2 μ2 h2 => ?_)
  obtain ⟨e12, hS2⟩ := st_wipe  hS h1 h2
  refine go_icmp_eq (tgt := 1419) dL_law_572 rfl (fun _ => ?_) (fun h => absurd e12 h)
  exact go_drop (kn μ2 hS2) rfl
set_option maxRecDepth 100000 in
set_option maxHeartbeats 4000000 in
theorem lc_13 {l : Launch} {D : va_G} {cA : Nat → ClassId} {N : Nat} {xs : Nat → Int} {BF BK BZ K Z : Nat} (hN : N ≤ 3072) (hxs : ∀ j, iR (xs j)) (hB79 : 79 ≤ BF) (hKZ : K ≤ BK ∧ Z ≤ BZ) {i : Int} {μ : Mem} (i0 : 0 ≤ i) (i1 : i + 6 ≤ (N : Nat)) (hS : Sim μ) (kn : ∀ μ2, Sim μ2 → Go l D cA (some (N, xs)) RL cL_law 4 (some .boolean) (BF, BK, BZ) (fun r _ _ _ => r = some (vi 1)) 113 ρ0 K Z 1419 [(0, vr 1020), (1, vr 0), (2, vr 87), (3, vi i)] [] μ2) : Go l D cA (some (N, xs)) RL cL_law 4 (some .boolean) (BF, BK, BZ) (fun r _ _ _ => r = some (vi 1)) 113 ρ0 K Z 577 [(0, vr 1020), (1, vr 0), (2, vr 87), (3, vi i)] [] μ := by
  have hBF : ∀ d : Nat, Nat.ble (d + 1) 79 = true → Nat.ble (d + 1) BF = true := fun d h => Nat.ble_eq_true_of_le (Nat.le_trans (Nat.le_of_ble_eq_true h) hB79)
  refine go_aload_n dL_law_577 rfl ?_
  refine go_aload_n dL_law_578 rfl ?_
  refine go_iload_n dL_law_579 rfl ?_
  refine go_iconst dL_law_580 rfl ?_
  refine go_iadd dL_law_581 ⟨by omega, by omega⟩ ?_
  refine go_sld dL_law_582 rfl (by omega) (by omega) ?_
  refine go_vI (ci := 8) dL_law_583 (ct_X9_at hS.1.1 _) ml_L_70 mc_X9_at mv_X9_at rfl (by decide) rfl rfl ⟨hBF _ rfl, rfl⟩ hKZ rfl rfl rfl (fun x1 μ1 h1 => ?_)
  have hF := cf_at h1
  refine go_aload_n dL_law_586 rfl ?_
  refine go_aload_n dL_law_587 rfl ?_
  refine go_iload_n dL_law_588 rfl ?_
  refine go_iconst dL_law_589 rfl ?_
  refine go_iadd dL_law_590 ⟨by omega, by omega⟩ ?_
  refine go_sld dL_law_591 rfl (by omega) (by omega) ?_
  refine go_vI (ci := 9) dL_law_592 (ct_X10_at (si_md hS hF) _) ml_L_73 mc_X10_at mv_X10_at rfl (by decide) rfl rfl ⟨hBF _ rfl, rfl⟩ hKZ rfl rfl rfl (fun x2 μ2 h2 => ?_)
  obtain ⟨e12, hS2⟩ := st_at _ hS h1 h2
  refine go_icmp_eq (tgt := 1419) dL_law_595 rfl (fun _ => ?_) (fun h => absurd e12 h)
  exact go_drop (kn μ2 hS2) rfl
set_option maxRecDepth 100000 in
set_option maxHeartbeats 4000000 in
theorem lc_14 {l : Launch} {D : va_G} {cA : Nat → ClassId} {N : Nat} {xs : Nat → Int} {BF BK BZ K Z : Nat} (hN : N ≤ 3072) (hxs : ∀ j, iR (xs j)) (hB79 : 79 ≤ BF) (hKZ : K ≤ BK ∧ Z ≤ BZ) {i : Int} {μ : Mem} (i0 : 0 ≤ i) (i1 : i + 6 ≤ (N : Nat)) (hS : Sim μ) (kn : ∀ μ2, Sim μ2 → Go l D cA (some (N, xs)) RL cL_law 4 (some .boolean) (BF, BK, BZ) (fun r _ _ _ => r = some (vi 1)) 113 ρ0 K Z 1419 [(0, vr 1020), (1, vr 0), (2, vr 87), (3, vi i)] [] μ2) : Go l D cA (some (N, xs)) RL cL_law 4 (some .boolean) (BF, BK, BZ) (fun r _ _ _ => r = some (vi 1)) 113 ρ0 K Z 600 [(0, vr 1020), (1, vr 0), (2, vr 87), (3, vi i)] [] μ := by
  have hBF : ∀ d : Nat, Nat.ble (d + 1) 79 = true → Nat.ble (d + 1) BF = true := fun d h => Nat.ble_eq_true_of_le (Nat.le_trans (Nat.le_of_ble_eq_true h) hB79)
  refine go_aload_n dL_law_600 rfl ?_
  refine go_aload_n dL_law_601 rfl ?_
  refine go_iload_n dL_law_602 rfl ?_
  refine go_iconst dL_law_603 rfl ?_
  refine go_iadd dL_law_604 ⟨by omega, by omega⟩ ?_
  refine go_sld dL_law_605 rfl (by omega) (by omega) ?_
  refine go_vI (ci := 8) dL_law_606 (ct_X9_along hS.1.1 _) ml_L_74 mc_X9_along mv_X9_along rfl (by decide) rfl rfl ⟨hBF _ rfl, rfl⟩ hKZ rfl rfl rfl (fun x1 μ1 h1 => ?_)
  have hF := cf_along h1
  refine go_aload_n dL_law_609 rfl ?_
  refine go_aload_n dL_law_610 rfl ?_
  refine go_iload_n dL_law_611 rfl ?_
  refine go_iconst dL_law_612 rfl ?_
  refine go_iadd dL_law_613 ⟨by omega, by omega⟩ ?_
  refine go_sld dL_law_614 rfl (by omega) (by omega) ?_
  refine go_vI (ci := 9) dL_law_615 (ct_X10_along (si_md hS hF) _) ml_L_77 mc_X10_along mv_X10_along rfl (by decide) rfl rfl ⟨hBF _ rfl, rfl⟩ hKZ rfl rfl rfl (fun x2 μ2 h2 => ?_)
  obtain ⟨e12, hS2⟩ := st_along _ hS h1 h2
  refine go_icmp_eq (tgt := 1419) dL_law_618 rfl (fun _ => ?_) (fun h => absurd e12 h)
  exact go_drop (kn μ2 hS2) rfl
set_option maxRecDepth 100000 in
set_option maxHeartbeats 4000000 in
theorem lc_15 {l : Launch} {D : va_G} {cA : Nat → ClassId} {N : Nat} {xs : Nat → Int} {BF BK BZ K Z : Nat} (hN : N ≤ 3072) (hxs : ∀ j, iR (xs j)) (hB79 : 79 ≤ BF) (hKZ : K ≤ BK ∧ Z ≤ BZ) {i : Int} {μ : Mem} (i0 : 0 ≤ i) (i1 : i + 6 ≤ (N : Nat)) (hS : Sim μ) (kn : ∀ μ2, Sim μ2 → Go l D cA (some (N, xs)) RL cL_law 4 (some .boolean) (BF, BK, BZ) (fun r _ _ _ => r = some (vi 1)) 113 ρ0 K Z 1419 [(0, vr 1020), (1, vr 0), (2, vr 87), (3, vi i)] [] μ2) : Go l D cA (some (N, xs)) RL cL_law 4 (some .boolean) (BF, BK, BZ) (fun r _ _ _ => r = some (vi 1)) 113 ρ0 K Z 623 [(0, vr 1020), (1, vr 0), (2, vr 87), (3, vi i)] [] μ := by
  have hBF : ∀ d : Nat, Nat.ble (d + 1) 79 = true → Nat.ble (d + 1) BF = true := fun d h => Nat.ble_eq_true_of_le (Nat.le_trans (Nat.le_of_ble_eq_true h) hB79)
  refine go_aload_n dL_law_623 rfl ?_
  refine go_aload_n dL_law_624 rfl ?_
  refine go_iload_n dL_law_625 rfl ?_
  refine go_iconst dL_law_626 rfl ?_
  refine go_iadd dL_law_627 ⟨by omega, by omega⟩ ?_
  refine go_sld dL_law_628 rfl (by omega) (by omega) ?_
  refine go_vI (ci := 8) dL_law_629 (ct_X9_turnBack hS.1.1 _) ml_L_78 mc_X9_turnBack mv_X9_turnBack rfl (by decide) rfl rfl ⟨hBF _ rfl, rfl⟩ hKZ rfl rfl rfl (fun x1 μ1 h1 => ?_)
  have hF := cf_turnBack h1
  refine go_aload_n dL_law_632 rfl ?_
  refine go_aload_n dL_law_633 rfl ?_
  refine go_iload_n dL_law_634 rfl ?_
  refine go_iconst dL_law_635 rfl ?_
  refine go_iadd dL_law_636 ⟨by omega, by omega⟩ ?_
  refine go_sld dL_law_637 rfl (by omega) (by omega) ?_
  refine go_vI (ci := 9) dL_law_638 (ct_X10_turnBack (si_md hS hF) _) ml_L_81 mc_X10_turnBack mv_X10_turnBack rfl (by decide) rfl rfl ⟨hBF _ rfl, rfl⟩ hKZ rfl rfl rfl (fun x2 μ2 h2 => ?_)
  obtain ⟨e12, hS2⟩ := st_turnBack _ hS h1 h2
  refine go_icmp_eq (tgt := 1419) dL_law_641 rfl (fun _ => ?_) (fun h => absurd e12 h)
  exact go_drop (kn μ2 hS2) rfl
set_option maxRecDepth 100000 in
set_option maxHeartbeats 4000000 in
theorem lc_16 {l : Launch} {D : va_G} {cA : Nat → ClassId} {N : Nat} {xs : Nat → Int} {BF BK BZ K Z : Nat} (hN : N ≤ 3072) (hxs : ∀ j, iR (xs j)) (hB79 : 79 ≤ BF) (hKZ : K ≤ BK ∧ Z ≤ BZ) {i : Int} {μ : Mem} (i0 : 0 ≤ i) (i1 : i + 6 ≤ (N : Nat)) (hS : Sim μ) (kn : ∀ μ2, Sim μ2 → Go l D cA (some (N, xs)) RL cL_law 4 (some .boolean) (BF, BK, BZ) (fun r _ _ _ => r = some (vi 1)) 113 ρ0 K Z 1419 [(0, vr 1020), (1, vr 0), (2, vr 87), (3, vi i)] [] μ2) : Go l D cA (some (N, xs)) RL cL_law 4 (some .boolean) (BF, BK, BZ) (fun r _ _ _ => r = some (vi 1)) 113 ρ0 K Z 646 [(0, vr 1020), (1, vr 0), (2, vr 87), (3, vi i)] [] μ := by
  have hBF : ∀ d : Nat, Nat.ble (d + 1) 79 = true → Nat.ble (d + 1) BF = true := fun d h => Nat.ble_eq_true_of_le (Nat.le_trans (Nat.le_of_ble_eq_true h) hB79)
  refine go_aload_n dL_law_646 rfl ?_
  refine go_aload_n dL_law_647 rfl ?_
  refine go_iload_n dL_law_648 rfl ?_
  refine go_iconst dL_law_649 rfl ?_
  refine go_iadd dL_law_650 ⟨by omega, by omega⟩ ?_
  refine go_sld dL_law_651 rfl (by omega) (by omega) ?_
  refine go_aload_n dL_law_652 rfl ?_
  refine go_iload_n dL_law_653 rfl ?_
  refine go_iconst dL_law_654 rfl ?_
  refine go_iadd dL_law_655 ⟨by omega, by omega⟩ ?_
  refine go_sld dL_law_656 rfl (by omega) (by omega) ?_
  refine go_aload_n dL_law_657 rfl ?_
  refine go_iload_n dL_law_658 rfl ?_
  refine go_iconst dL_law_659 rfl ?_
  refine go_iadd dL_law_660 ⟨by omega, by omega⟩ ?_
  refine go_sld dL_law_661 rfl (by omega) (by omega) ?_
  refine go_vI (ci := 8) dL_law_662 (ct_X9_way hS.1.1 _ _ _ (hxs _).2) ml_L_82 mc_X9_way mv_X9_way rfl (by decide) rfl rfl ⟨hBF _ rfl, rfl⟩ hKZ rfl rfl rfl (fun x1 μ1 h1 => ?_)
  have hF := cf_way h1
  refine go_aload_n dL_law_665 rfl ?_
  refine go_aload_n dL_law_666 rfl ?_
  refine go_iload_n dL_law_667 rfl ?_
  refine go_iconst dL_law_668 rfl ?_
  refine go_iadd dL_law_669 ⟨by omega, by omega⟩ ?_
  refine go_sld dL_law_670 rfl (by omega) (by omega) ?_
  refine go_aload_n dL_law_671 rfl ?_
  refine go_iload_n dL_law_672 rfl ?_
  refine go_iconst dL_law_673 rfl ?_
  refine go_iadd dL_law_674 ⟨by omega, by omega⟩ ?_
  refine go_sld dL_law_675 rfl (by omega) (by omega) ?_
  refine go_aload_n dL_law_676 rfl ?_
  refine go_iload_n dL_law_677 rfl ?_
  refine go_iconst dL_law_678 rfl ?_
  refine go_iadd dL_law_679 ⟨by omega, by omega⟩ ?_
  refine go_sld dL_law_680 rfl (by omega) (by omega) ?_
  refine go_vI (ci := 9) dL_law_681 (ct_X10_way (si_md hS hF) _ _ _ (hxs _).2) ml_L_85 mc_X10_way mv_X10_way rfl (by decide) rfl rfl ⟨hBF _ rfl, rfl⟩ hKZ rfl rfl rfl (fun x2 μ2 h2 => ?_)
  obtain ⟨e12, hS2⟩ := st_way _ _ _ hS h1 h2
  refine go_icmp_eq (tgt := 1419) dL_law_684 rfl (fun _ => ?_) (fun h => absurd e12 h)
  exact go_drop (kn μ2 hS2) rfl
set_option maxRecDepth 100000 in
set_option maxHeartbeats 4000000 in
theorem lc_17 {l : Launch} {D : va_G} {cA : Nat → ClassId} {N : Nat} {xs : Nat → Int} {BF BK BZ K Z : Nat} (hN : N ≤ 3072) (hxs : ∀ j, iR (xs j)) (hB79 : 79 ≤ BF) (hKZ : K ≤ BK ∧ Z ≤ BZ) {i : Int} {μ : Mem} (i0 : 0 ≤ i) (i1 : i + 6 ≤ (N : Nat)) (hS : Sim μ) (kn : ∀ μ2, Sim μ2 → Go l D cA (some (N, xs)) RL cL_law 4 (some .boolean) (BF, BK, BZ) (fun r _ _ _ => r = some (vi 1)) 113 ρ0 K Z 1419 [(0, vr 1020), (1, vr 0), (2, vr 87), (3, vi i)] [] μ2) : Go l D cA (some (N, xs)) RL cL_law 4 (some .boolean) (BF, BK, BZ) (fun r _ _ _ => r = some (vi 1)) 113 ρ0 K Z 689 [(0, vr 1020), (1, vr 0), (2, vr 87), (3, vi i)] [] μ := by
  have hBF : ∀ d : Nat, Nat.ble (d + 1) 79 = true → Nat.ble (d + 1) BF = true := fun d h => Nat.ble_eq_true_of_le (Nat.le_trans (Nat.le_of_ble_eq_true h) hB79)
  refine go_aload_n dL_law_689 rfl ?_
  refine go_aload_n dL_law_690 rfl ?_
  refine go_iload_n dL_law_691 rfl ?_
  refine go_iconst dL_law_692 rfl ?_
  refine go_iadd dL_law_693 ⟨by omega, by omega⟩ ?_
  refine go_sld dL_law_694 rfl (by omega) (by omega) ?_
  refine go_aload_n dL_law_695 rfl ?_
  refine go_iload_n dL_law_696 rfl ?_
  refine go_iconst dL_law_697 rfl ?_
  refine go_iadd dL_law_698 ⟨by omega, by omega⟩ ?_
  refine go_sld dL_law_699 rfl (by omega) (by omega) ?_
  refine go_aload_n dL_law_700 rfl ?_
  refine go_iload_n dL_law_701 rfl ?_
  refine go_iconst dL_law_702 rfl ?_
  refine go_iadd dL_law_703 ⟨by omega, by omega⟩ ?_
  refine go_sld dL_law_704 rfl (by omega) (by omega) ?_
  refine go_vI (ci := 8) dL_law_705 (ct_X9_bound hS.1.1 _ _ _) ml_L_86 mc_X9_bound mv_X9_bound rfl (by decide) rfl rfl ⟨hBF _ rfl, rfl⟩ hKZ rfl rfl rfl (fun x1 μ1 h1 => ?_)
  have hF := cf_bound h1
  refine go_aload_n dL_law_708 rfl ?_
  refine go_aload_n dL_law_709 rfl ?_
  refine go_iload_n dL_law_710 rfl ?_
  refine go_iconst dL_law_711 rfl ?_
  refine go_iadd dL_law_712 ⟨by omega, by omega⟩ ?_
  refine go_sld dL_law_713 rfl (by omega) (by omega) ?_
  refine go_aload_n dL_law_714 rfl ?_
  refine go_iload_n dL_law_715 rfl ?_
  refine go_iconst dL_law_716 rfl ?_
  refine go_iadd dL_law_717 ⟨by omega, by omega⟩ ?_
  refine go_sld dL_law_718 rfl (by omega) (by omega) ?_
  refine go_aload_n dL_law_719 rfl ?_
  refine go_iload_n dL_law_720 rfl ?_
  refine go_iconst dL_law_721 rfl ?_
  refine go_iadd dL_law_722 ⟨by omega, by omega⟩ ?_
  refine go_sld dL_law_723 rfl (by omega) (by omega) ?_
  refine go_vI (ci := 9) dL_law_724 (ct_X10_bound (si_md hS hF) _ _ _) ml_L_89 mc_X10_bound mv_X10_bound rfl (by decide) rfl rfl ⟨hBF _ rfl, rfl⟩ hKZ rfl rfl rfl (fun x2 μ2 h2 => ?_)
  obtain ⟨e12, hS2⟩ := st_bound _ _ _ hS h1 h2
  refine go_icmp_eq (tgt := 1419) dL_law_727 rfl (fun _ => ?_) (fun h => absurd e12 h)
  exact go_drop (kn μ2 hS2) rfl
set_option maxRecDepth 100000 in
set_option maxHeartbeats 4000000 in
theorem lc_18 {l : Launch} {D : va_G} {cA : Nat → ClassId} {N : Nat} {xs : Nat → Int} {BF BK BZ K Z : Nat} (hN : N ≤ 3072) (hxs : ∀ j, iR (xs j)) (hB79 : 79 ≤ BF) (hKZ : K ≤ BK ∧ Z ≤ BZ) {i : Int} {μ : Mem} (i0 : 0 ≤ i) (i1 : i + 6 ≤ (N : Nat)) (hS : Sim μ) (kn : ∀ μ2, Sim μ2 → Go l D cA (some (N, xs)) RL cL_law 4 (some .boolean) (BF, BK, BZ) (fun r _ _ _ => r = some (vi 1)) 113 ρ0 K Z 1419 [(0, vr 1020), (1, vr 0), (2, vr 87), (3, vi i)] [] μ2) : Go l D cA (some (N, xs)) RL cL_law 4 (some .boolean) (BF, BK, BZ) (fun r _ _ _ => r = some (vi 1)) 113 ρ0 K Z 732 [(0, vr 1020), (1, vr 0), (2, vr 87), (3, vi i)] [] μ := by
  have hBF : ∀ d : Nat, Nat.ble (d + 1) 79 = true → Nat.ble (d + 1) BF = true := fun d h => Nat.ble_eq_true_of_le (Nat.le_trans (Nat.le_of_ble_eq_true h) hB79)
  refine go_aload_n dL_law_732 rfl ?_
  refine go_aload_n dL_law_733 rfl ?_
  refine go_iload_n dL_law_734 rfl ?_
  refine go_iconst dL_law_735 rfl ?_
  refine go_iadd dL_law_736 ⟨by omega, by omega⟩ ?_
  refine go_sld dL_law_737 rfl (by omega) (by omega) ?_
  refine go_aload_n dL_law_738 rfl ?_
  refine go_iload_n dL_law_739 rfl ?_
  refine go_iconst dL_law_740 rfl ?_
  refine go_iadd dL_law_741 ⟨by omega, by omega⟩ ?_
  refine go_sld dL_law_742 rfl (by omega) (by omega) ?_
  refine go_vI (ci := 8) dL_law_743 (ct_X9_wall hS.1.1 _ _) ml_L_90 mc_X9_wall mv_X9_wall rfl (by decide) rfl rfl ⟨hBF _ rfl, rfl⟩ hKZ rfl rfl rfl (fun x1 μ1 h1 => ?_)
  have hF := cf_wall h1
  refine go_aload_n dL_law_746 rfl ?_
  refine go_aload_n dL_law_747 rfl ?_
  refine go_iload_n dL_law_748 rfl ?_
  refine go_iconst dL_law_749 rfl ?_
  refine go_iadd dL_law_750 ⟨by omega, by omega⟩ ?_
  refine go_sld dL_law_751 rfl (by omega) (by omega) ?_
  refine go_aload_n dL_law_752 rfl ?_
  refine go_iload_n dL_law_753 rfl ?_
  refine go_iconst dL_law_754 rfl ?_
  refine go_iadd dL_law_755 ⟨by omega, by omega⟩ ?_
  refine go_sld dL_law_756 rfl (by omega) (by omega) ?_
  refine go_vI (ci := 9) dL_law_757 (ct_X10_wall (si_md hS hF) _ _) ml_L_93 mc_X10_wall mv_X10_wall rfl (by decide) rfl rfl ⟨hBF _ rfl, rfl⟩ hKZ rfl rfl rfl (fun x2 μ2 h2 => ?_)
  obtain ⟨e12, hS2⟩ := st_wall _ _ hS h1 h2
  refine go_icmp_eq (tgt := 1419) dL_law_760 rfl (fun _ => ?_) (fun h => absurd e12 h)
  exact go_drop (kn μ2 hS2) rfl
set_option maxRecDepth 100000 in
set_option maxHeartbeats 4000000 in
theorem lc_19 {l : Launch} {D : va_G} {cA : Nat → ClassId} {N : Nat} {xs : Nat → Int} {BF BK BZ K Z : Nat} (hN : N ≤ 3072) (hxs : ∀ j, iR (xs j)) (hB79 : 79 ≤ BF) (hKZ : K ≤ BK ∧ Z ≤ BZ) {i : Int} {μ : Mem} (i0 : 0 ≤ i) (i1 : i + 6 ≤ (N : Nat)) (hS : Sim μ) (kn : ∀ μ2, Sim μ2 → Go l D cA (some (N, xs)) RL cL_law 4 (some .boolean) (BF, BK, BZ) (fun r _ _ _ => r = some (vi 1)) 113 ρ0 K Z 1419 [(0, vr 1020), (1, vr 0), (2, vr 87), (3, vi i)] [] μ2) : Go l D cA (some (N, xs)) RL cL_law 4 (some .boolean) (BF, BK, BZ) (fun r _ _ _ => r = some (vi 1)) 113 ρ0 K Z 765 [(0, vr 1020), (1, vr 0), (2, vr 87), (3, vi i)] [] μ := by
  have hBF : ∀ d : Nat, Nat.ble (d + 1) 79 = true → Nat.ble (d + 1) BF = true := fun d h => Nat.ble_eq_true_of_le (Nat.le_trans (Nat.le_of_ble_eq_true h) hB79)
  refine go_aload_n dL_law_765 rfl ?_
  refine go_aload_n dL_law_766 rfl ?_
  refine go_iload_n dL_law_767 rfl ?_
  refine go_iconst dL_law_768 rfl ?_
  refine go_iadd dL_law_769 ⟨by omega, by omega⟩ ?_
  refine go_sld dL_law_770 rfl (by omega) (by omega) ?_
  refine go_aload_n dL_law_771 rfl ?_
  refine go_iload_n dL_law_772 rfl ?_
  refine go_iconst dL_law_773 rfl ?_
  refine go_iadd dL_law_774 ⟨by omega, by omega⟩ ?_
  refine go_sld dL_law_775 rfl (by omega) (by omega) ?_
  refine go_vI (ci := 8) dL_law_776 (ct_X9_reach hS.1.1 _ _) ml_L_94 mc_X9_reach mv_X9_reach rfl (by decide) rfl rfl ⟨hBF _ rfl, rfl⟩ hKZ rfl rfl rfl (fun x1 μ1 h1 => ?_)
  have hF := cf_reach h1
  refine go_aload_n dL_law_779 rfl ?_
  refine go_aload_n dL_law_780 rfl ?_
  refine go_iload_n dL_law_781 rfl ?_
  refine go_iconst dL_law_782 rfl ?_
  refine go_iadd dL_law_783 ⟨by omega, by omega⟩ ?_
  refine go_sld dL_law_784 rfl (by omega) (by omega) ?_
  refine go_aload_n dL_law_785 rfl ?_
  refine go_iload_n dL_law_786 rfl ?_
  refine go_iconst dL_law_787 rfl ?_
  refine go_iadd dL_law_788 ⟨by omega, by omega⟩ ?_
  refine go_sld dL_law_789 rfl (by omega) (by omega) ?_
  refine go_vI (ci := 9) dL_law_790 (ct_X10_reach (si_md hS hF) _ _) ml_L_97 mc_X10_reach mv_X10_reach rfl (by decide) rfl rfl ⟨hBF _ rfl, rfl⟩ hKZ rfl rfl rfl (fun x2 μ2 h2 => ?_)
  obtain ⟨e12, hS2⟩ := st_reach _ _ hS h1 h2
  refine go_icmp_eq (tgt := 1419) dL_law_793 rfl (fun _ => ?_) (fun h => absurd e12 h)
  exact go_drop (kn μ2 hS2) rfl
set_option maxRecDepth 100000 in
set_option maxHeartbeats 4000000 in
theorem lc_20 {l : Launch} {D : va_G} {cA : Nat → ClassId} {N : Nat} {xs : Nat → Int} {BF BK BZ K Z : Nat} (hN : N ≤ 3072) (hxs : ∀ j, iR (xs j)) (hB79 : 79 ≤ BF) (hKZ : K ≤ BK ∧ Z ≤ BZ) {i : Int} {μ : Mem} (i0 : 0 ≤ i) (i1 : i + 6 ≤ (N : Nat)) (hS : Sim μ) (kn : ∀ μ2, Sim μ2 → Go l D cA (some (N, xs)) RL cL_law 4 (some .boolean) (BF, BK, BZ) (fun r _ _ _ => r = some (vi 1)) 113 ρ0 K Z 1419 [(0, vr 1020), (1, vr 0), (2, vr 87), (3, vi i)] [] μ2) : Go l D cA (some (N, xs)) RL cL_law 4 (some .boolean) (BF, BK, BZ) (fun r _ _ _ => r = some (vi 1)) 113 ρ0 K Z 798 [(0, vr 1020), (1, vr 0), (2, vr 87), (3, vi i)] [] μ := by
  have hBF : ∀ d : Nat, Nat.ble (d + 1) 79 = true → Nat.ble (d + 1) BF = true := fun d h => Nat.ble_eq_true_of_le (Nat.le_trans (Nat.le_of_ble_eq_true h) hB79)
  refine go_aload_n dL_law_798 rfl ?_
  refine go_aload_n dL_law_799 rfl ?_
  refine go_iload_n dL_law_800 rfl ?_
  refine go_iconst dL_law_801 rfl ?_
  refine go_iadd dL_law_802 ⟨by omega, by omega⟩ ?_
  refine go_sld dL_law_803 rfl (by omega) (by omega) ?_
  refine go_aload_n dL_law_804 rfl ?_
  refine go_iload_n dL_law_805 rfl ?_
  refine go_iconst dL_law_806 rfl ?_
  refine go_iadd dL_law_807 ⟨by omega, by omega⟩ ?_
  refine go_sld dL_law_808 rfl (by omega) (by omega) ?_
  refine go_aload_n dL_law_809 rfl ?_
  refine go_iload_n dL_law_810 rfl ?_
  refine go_iconst dL_law_811 rfl ?_
  refine go_iadd dL_law_812 ⟨by omega, by omega⟩ ?_
  refine go_sld dL_law_813 rfl (by omega) (by omega) ?_
  refine go_vL (ci := 8) dL_law_814 (ct_X9_odds _ _ _) ml_L_98 mc_X9_odds mv_X9_odds rfl (by decide) rfl rfl ⟨hBF _ rfl, rfl⟩ hKZ rfl rfl rfl (fun x1 μ1 h1 => ?_)
  have hF : ∀ w, 87 ≤ w → μ1 w = μ w := fun w _ => by rw [h1.2]
  refine go_aload_n dL_law_817 rfl ?_
  refine go_aload_n dL_law_818 rfl ?_
  refine go_iload_n dL_law_819 rfl ?_
  refine go_iconst dL_law_820 rfl ?_
  refine go_iadd dL_law_821 ⟨by omega, by omega⟩ ?_
  refine go_sld dL_law_822 rfl (by omega) (by omega) ?_
  refine go_aload_n dL_law_823 rfl ?_
  refine go_iload_n dL_law_824 rfl ?_
  refine go_iconst dL_law_825 rfl ?_
  refine go_iadd dL_law_826 ⟨by omega, by omega⟩ ?_
  refine go_sld dL_law_827 rfl (by omega) (by omega) ?_
  refine go_aload_n dL_law_828 rfl ?_
  refine go_iload_n dL_law_829 rfl ?_
  refine go_iconst dL_law_830 rfl ?_
  refine go_iadd dL_law_831 ⟨by omega, by omega⟩ ?_
  refine go_sld dL_law_832 rfl (by omega) (by omega) ?_
  refine go_vL (ci := 9) dL_law_833 (ct_X10_odds _ _ _) ml_L_102 mc_X10_odds mv_X10_odds rfl (by decide) rfl rfl ⟨hBF _ rfl, rfl⟩ hKZ rfl rfl rfl (fun x2 μ2 h2 => ?_)
  refine go_lcmp dL_law_836 ?_
  obtain ⟨e12, hS2⟩ := st_odds _ _ _ hS h1 h2
  refine go_if_eq (tgt := 1419) dL_law_837 rfl (fun _ => ?_) (fun h => absurd (by rw [e12]; exact lcI_eq) h)
  exact go_drop (kn μ2 hS2) rfl
set_option maxRecDepth 100000 in
set_option maxHeartbeats 4000000 in
theorem lc_21 {l : Launch} {D : va_G} {cA : Nat → ClassId} {N : Nat} {xs : Nat → Int} {BF BK BZ K Z : Nat} (hN : N ≤ 3072) (hxs : ∀ j, iR (xs j)) (hB79 : 79 ≤ BF) (hKZ : K ≤ BK ∧ Z ≤ BZ) {i : Int} {μ : Mem} (i0 : 0 ≤ i) (i1 : i + 6 ≤ (N : Nat)) (hS : Sim μ) (kn : ∀ μ2, Sim μ2 → Go l D cA (some (N, xs)) RL cL_law 4 (some .boolean) (BF, BK, BZ) (fun r _ _ _ => r = some (vi 1)) 113 ρ0 K Z 1419 [(0, vr 1020), (1, vr 0), (2, vr 87), (3, vi i)] [] μ2) : Go l D cA (some (N, xs)) RL cL_law 4 (some .boolean) (BF, BK, BZ) (fun r _ _ _ => r = some (vi 1)) 113 ρ0 K Z 842 [(0, vr 1020), (1, vr 0), (2, vr 87), (3, vi i)] [] μ := by
  have hBF : ∀ d : Nat, Nat.ble (d + 1) 79 = true → Nat.ble (d + 1) BF = true := fun d h => Nat.ble_eq_true_of_le (Nat.le_trans (Nat.le_of_ble_eq_true h) hB79)
  refine go_aload_n dL_law_842 rfl ?_
  refine go_aload_n dL_law_843 rfl ?_
  refine go_iload_n dL_law_844 rfl ?_
  refine go_iconst dL_law_845 rfl ?_
  refine go_iadd dL_law_846 ⟨by omega, by omega⟩ ?_
  refine go_sld dL_law_847 rfl (by omega) (by omega) ?_
  refine go_aload_n dL_law_848 rfl ?_
  refine go_iload_n dL_law_849 rfl ?_
  refine go_iconst dL_law_850 rfl ?_
  refine go_iadd dL_law_851 ⟨by omega, by omega⟩ ?_
  refine go_sld dL_law_852 rfl (by omega) (by omega) ?_
  refine go_aload_n dL_law_853 rfl ?_
  refine go_iload_n dL_law_854 rfl ?_
  refine go_iconst dL_law_855 rfl ?_
  refine go_iadd dL_law_856 ⟨by omega, by omega⟩ ?_
  refine go_sld dL_law_857 rfl (by omega) (by omega) ?_
  refine go_vI (ci := 8) dL_law_858 (ct_X9_feed hS.2.2.1.2.2.1 _ _ _) ml_L_103 mc_X9_feed mv_X9_feed rfl (by decide) rfl rfl ⟨hBF _ rfl, rfl⟩ hKZ rfl rfl rfl (fun x1 μ1 h1 => ?_)
  have hF := cf_feed h1
  refine go_aload_n dL_law_861 rfl ?_
  refine go_aload_n dL_law_862 rfl ?_
  refine go_iload_n dL_law_863 rfl ?_
  refine go_iconst dL_law_864 rfl ?_
  refine go_iadd dL_law_865 ⟨by omega, by omega⟩ ?_
  refine go_sld dL_law_866 rfl (by omega) (by omega) ?_
  refine go_aload_n dL_law_867 rfl ?_
  refine go_iload_n dL_law_868 rfl ?_
  refine go_iconst dL_law_869 rfl ?_
  refine go_iadd dL_law_870 ⟨by omega, by omega⟩ ?_
  refine go_sld dL_law_871 rfl (by omega) (by omega) ?_
  refine go_aload_n dL_law_872 rfl ?_
  refine go_iload_n dL_law_873 rfl ?_
  refine go_iconst dL_law_874 rfl ?_
  refine go_iadd dL_law_875 ⟨by omega, by omega⟩ ?_
  refine go_sld dL_law_876 rfl (by omega) (by omega) ?_
  refine go_vI (ci := 9) dL_law_877 (ct_X10_feed (si_tp hS hF) _ _ _) ml_L_106 mc_X10_feed mv_X10_feed rfl (by decide) rfl rfl ⟨hBF _ rfl, rfl⟩ hKZ rfl rfl rfl (fun x2 μ2 h2 => ?_)
  obtain ⟨e12, hS2⟩ := st_feed _ _ _ hS h1 h2
  refine go_icmp_eq (tgt := 1419) dL_law_880 rfl (fun _ => ?_) (fun h => absurd e12 h)
  exact go_drop (kn μ2 hS2) rfl
set_option maxRecDepth 100000 in
set_option maxHeartbeats 4000000 in
theorem lc_22 {l : Launch} {D : va_G} {cA : Nat → ClassId} {N : Nat} {xs : Nat → Int} {BF BK BZ K Z : Nat} (hN : N ≤ 3072) (hxs : ∀ j, iR (xs j)) (hB79 : 79 ≤ BF) (hKZ : K ≤ BK ∧ Z ≤ BZ) {i : Int} {μ : Mem} (i0 : 0 ≤ i) (i1 : i + 6 ≤ (N : Nat)) (hS : Sim μ) (kn : ∀ μ2, Sim μ2 → Go l D cA (some (N, xs)) RL cL_law 4 (some .boolean) (BF, BK, BZ) (fun r _ _ _ => r = some (vi 1)) 113 ρ0 K Z 1419 [(0, vr 1020), (1, vr 0), (2, vr 87), (3, vi i)] [] μ2) : Go l D cA (some (N, xs)) RL cL_law 4 (some .boolean) (BF, BK, BZ) (fun r _ _ _ => r = some (vi 1)) 113 ρ0 K Z 885 [(0, vr 1020), (1, vr 0), (2, vr 87), (3, vi i)] [] μ := by
  have hBF : ∀ d : Nat, Nat.ble (d + 1) 79 = true → Nat.ble (d + 1) BF = true := fun d h => Nat.ble_eq_true_of_le (Nat.le_trans (Nat.le_of_ble_eq_true h) hB79)
  refine go_aload_n dL_law_885 rfl ?_
  refine go_aload_n dL_law_886 rfl ?_
  refine go_iload_n dL_law_887 rfl ?_
  refine go_iconst dL_law_888 rfl ?_
  refine go_iadd dL_law_889 ⟨by omega, by omega⟩ ?_
  refine go_sld dL_law_890 rfl (by omega) (by omega) ?_
  refine go_vI (ci := 8) dL_law_891 (ct_X9_trim _) ml_L_107 mc_X9_trim mv_X9_trim rfl (by decide) rfl rfl ⟨hBF _ rfl, rfl⟩ hKZ rfl rfl rfl (fun x1 μ1 h1 => ?_)
  have hF := cf_trim h1
  refine go_aload_n dL_law_894 rfl ?_
  refine go_aload_n dL_law_895 rfl ?_
  refine go_iload_n dL_law_896 rfl ?_
  refine go_iconst dL_law_897 rfl ?_
  refine go_iadd dL_law_898 ⟨by omega, by omega⟩ ?_
  refine go_sld dL_law_899 rfl (by omega) (by omega) ?_
  refine go_vI (ci := 9) dL_law_900 (ct_X10_trim _) ml_L_110 mc_X10_trim mv_X10_trim rfl (by decide) rfl rfl ⟨hBF _ rfl, rfl⟩ hKZ rfl rfl rfl (fun x2 μ2 h2 => ?_)
  obtain ⟨e12, hS2⟩ := st_trim _ hS h1 h2
  refine go_icmp_eq (tgt := 1419) dL_law_903 rfl (fun _ => ?_) (fun h => absurd e12 h)
  exact go_drop (kn μ2 hS2) rfl
set_option maxRecDepth 100000 in
set_option maxHeartbeats 4000000 in
theorem lc_23 {l : Launch} {D : va_G} {cA : Nat → ClassId} {N : Nat} {xs : Nat → Int} {BF BK BZ K Z : Nat} (hN : N ≤ 3072) (hxs : ∀ j, iR (xs j)) (hB79 : 79 ≤ BF) (hKZ : K ≤ BK ∧ Z ≤ BZ) {i : Int} {μ : Mem} (i0 : 0 ≤ i) (i1 : i + 6 ≤ (N : Nat)) (hS : Sim μ) (kn : ∀ μ2, Sim μ2 → Go l D cA (some (N, xs)) RL cL_law 4 (some .boolean) (BF, BK, BZ) (fun r _ _ _ => r = some (vi 1)) 113 ρ0 K Z 1419 [(0, vr 1020), (1, vr 0), (2, vr 87), (3, vi i)] [] μ2) : Go l D cA (some (N, xs)) RL cL_law 4 (some .boolean) (BF, BK, BZ) (fun r _ _ _ => r = some (vi 1)) 113 ρ0 K Z 908 [(0, vr 1020), (1, vr 0), (2, vr 87), (3, vi i)] [] μ := by
  have hBF : ∀ d : Nat, Nat.ble (d + 1) 79 = true → Nat.ble (d + 1) BF = true := fun d h => Nat.ble_eq_true_of_le (Nat.le_trans (Nat.le_of_ble_eq_true h) hB79)
  refine go_aload_n dL_law_908 rfl ?_
  refine go_vI (ci := 8) dL_law_909 (ct_X9_text hS.1.1 hS.2.2.1.2.2.1.1 hS.2.2.1.2.2.1.2 hS.2.2.1.2.2.2) ml_L_111 mc_X9_text mv_X9_text rfl (by decide) rfl rfl ⟨hBF _ rfl, rfl⟩ hKZ rfl rfl rfl (fun x1 μ1 h1 => ?_)
  have hF := cf_text (by have := hS.1.1.2.2.2.2.2.2.2.2.1; omega) h1
  refine go_aload_n dL_law_912 rfl ?_
  refine go_vI (ci := 9) dL_law_913 (ct_X10_text (co := μ 60) (si_tp hS hF).1 (si_tp hS hF).2 (si_tx hS hF).1 (si_tx hS hF).2) ml_L_114 mc_X10_text mv_X10_text rfl (by decide) rfl rfl ⟨hBF _ rfl, rfl⟩ hKZ rfl rfl rfl (fun x2 μ2 h2 => ?_)
  obtain ⟨e12, hS2⟩ := st_text  hS h1 h2
  refine go_icmp_eq (tgt := 1419) dL_law_916 rfl (fun _ => ?_) (fun h => absurd e12 h)
  exact go_drop (kn μ2 hS2) rfl
set_option maxRecDepth 100000 in
set_option maxHeartbeats 4000000 in
theorem lc_24 {l : Launch} {D : va_G} {cA : Nat → ClassId} {N : Nat} {xs : Nat → Int} {BF BK BZ K Z : Nat} (hN : N ≤ 3072) (hxs : ∀ j, iR (xs j)) (hB79 : 79 ≤ BF) (hKZ : K ≤ BK ∧ Z ≤ BZ) {i : Int} {μ : Mem} (i0 : 0 ≤ i) (i1 : i + 6 ≤ (N : Nat)) (hS : Sim μ) (kn : ∀ μ2, Sim μ2 → Go l D cA (some (N, xs)) RL cL_law 4 (some .boolean) (BF, BK, BZ) (fun r _ _ _ => r = some (vi 1)) 113 ρ0 K Z 1419 [(0, vr 1020), (1, vr 0), (2, vr 87), (3, vi i)] [] μ2) : Go l D cA (some (N, xs)) RL cL_law 4 (some .boolean) (BF, BK, BZ) (fun r _ _ _ => r = some (vi 1)) 113 ρ0 K Z 921 [(0, vr 1020), (1, vr 0), (2, vr 87), (3, vi i)] [] μ := by
  have hBF : ∀ d : Nat, Nat.ble (d + 1) 79 = true → Nat.ble (d + 1) BF = true := fun d h => Nat.ble_eq_true_of_le (Nat.le_trans (Nat.le_of_ble_eq_true h) hB79)
  refine go_aload_n dL_law_921 rfl ?_
  refine go_aload_n dL_law_922 rfl ?_
  refine go_iload_n dL_law_923 rfl ?_
  refine go_iconst dL_law_924 rfl ?_
  refine go_iadd dL_law_925 ⟨by omega, by omega⟩ ?_
  refine go_sld dL_law_926 rfl (by omega) (by omega) ?_
  refine go_aload_n dL_law_927 rfl ?_
  refine go_iload_n dL_law_928 rfl ?_
  refine go_iconst dL_law_929 rfl ?_
  refine go_iadd dL_law_930 ⟨by omega, by omega⟩ ?_
  refine go_sld dL_law_931 rfl (by omega) (by omega) ?_
  refine go_vI (ci := 8) dL_law_932 (ct_X9_textTold hS.1.1 _ _) ml_L_115 mc_X9_textTold mv_X9_textTold rfl (by decide) rfl rfl ⟨hBF _ rfl, rfl⟩ hKZ rfl rfl rfl (fun x1 μ1 h1 => ?_)
  have hF := cf_textTold h1
  refine go_aload_n dL_law_935 rfl ?_
  refine go_aload_n dL_law_936 rfl ?_
  refine go_iload_n dL_law_937 rfl ?_
  refine go_iconst dL_law_938 rfl ?_
  refine go_iadd dL_law_939 ⟨by omega, by omega⟩ ?_
  refine go_sld dL_law_940 rfl (by omega) (by omega) ?_
  refine go_aload_n dL_law_941 rfl ?_
  refine go_iload_n dL_law_942 rfl ?_
  refine go_iconst dL_law_943 rfl ?_
  refine go_iadd dL_law_944 ⟨by omega, by omega⟩ ?_
  refine go_sld dL_law_945 rfl (by omega) (by omega) ?_
  refine go_vI (ci := 9) dL_law_946 (ct_X10_textTold (si_md hS hF) _ _) ml_L_118 mc_X10_textTold mv_X10_textTold rfl (by decide) rfl rfl ⟨hBF _ rfl, rfl⟩ hKZ rfl rfl rfl (fun x2 μ2 h2 => ?_)
  obtain ⟨e12, hS2⟩ := st_textTold _ _ hS h1 h2
  refine go_icmp_eq (tgt := 1419) dL_law_949 rfl (fun _ => ?_) (fun h => absurd e12 h)
  exact go_drop (kn μ2 hS2) rfl
set_option maxRecDepth 100000 in
set_option maxHeartbeats 4000000 in
theorem lc_25 {l : Launch} {D : va_G} {cA : Nat → ClassId} {N : Nat} {xs : Nat → Int} {BF BK BZ K Z : Nat} (hN : N ≤ 3072) (hxs : ∀ j, iR (xs j)) (hB79 : 79 ≤ BF) (hKZ : K ≤ BK ∧ Z ≤ BZ) {i : Int} {μ : Mem} (i0 : 0 ≤ i) (i1 : i + 6 ≤ (N : Nat)) (hS : Sim μ) (kn : ∀ μ2, Sim μ2 → Go l D cA (some (N, xs)) RL cL_law 4 (some .boolean) (BF, BK, BZ) (fun r _ _ _ => r = some (vi 1)) 113 ρ0 K Z 1419 [(0, vr 1020), (1, vr 0), (2, vr 87), (3, vi i)] [] μ2) : Go l D cA (some (N, xs)) RL cL_law 4 (some .boolean) (BF, BK, BZ) (fun r _ _ _ => r = some (vi 1)) 113 ρ0 K Z 954 [(0, vr 1020), (1, vr 0), (2, vr 87), (3, vi i)] [] μ := by
  have hBF : ∀ d : Nat, Nat.ble (d + 1) 79 = true → Nat.ble (d + 1) BF = true := fun d h => Nat.ble_eq_true_of_le (Nat.le_trans (Nat.le_of_ble_eq_true h) hB79)
  refine go_aload_n dL_law_954 rfl ?_
  refine go_aload_n dL_law_955 rfl ?_
  refine go_iload_n dL_law_956 rfl ?_
  refine go_iconst dL_law_957 rfl ?_
  refine go_iadd dL_law_958 ⟨by omega, by omega⟩ ?_
  refine go_sld dL_law_959 rfl (by omega) (by omega) ?_
  refine go_vI (ci := 8) dL_law_960 (ct_X9_why hS.1.1 _) ml_L_119 mc_X9_why mv_X9_why rfl (by decide) rfl rfl ⟨hBF _ rfl, rfl⟩ hKZ rfl rfl rfl (fun x1 μ1 h1 => ?_)
  have hF := cf_why h1
  refine go_aload_n dL_law_963 rfl ?_
  refine go_aload_n dL_law_964 rfl ?_
  refine go_iload_n dL_law_965 rfl ?_
  refine go_iconst dL_law_966 rfl ?_
  refine go_iadd dL_law_967 ⟨by omega, by omega⟩ ?_
  refine go_sld dL_law_968 rfl (by omega) (by omega) ?_
  refine go_vI (ci := 9) dL_law_969 (ct_X10_why (si_md hS hF) _) ml_L_122 mc_X10_why mv_X10_why rfl (by decide) rfl rfl ⟨hBF _ rfl, rfl⟩ hKZ rfl rfl rfl (fun x2 μ2 h2 => ?_)
  obtain ⟨e12, hS2⟩ := st_why _ hS h1 h2
  refine go_icmp_eq (tgt := 1419) dL_law_972 rfl (fun _ => ?_) (fun h => absurd e12 h)
  exact go_drop (kn μ2 hS2) rfl
set_option maxRecDepth 100000 in
set_option maxHeartbeats 4000000 in
theorem lc_26 {l : Launch} {D : va_G} {cA : Nat → ClassId} {N : Nat} {xs : Nat → Int} {BF BK BZ K Z : Nat} (hN : N ≤ 3072) (hxs : ∀ j, iR (xs j)) (hB79 : 79 ≤ BF) (hKZ : K ≤ BK ∧ Z ≤ BZ) {i : Int} {μ : Mem} (i0 : 0 ≤ i) (i1 : i + 6 ≤ (N : Nat)) (hS : Sim μ) (kn : ∀ μ2, Sim μ2 → Go l D cA (some (N, xs)) RL cL_law 4 (some .boolean) (BF, BK, BZ) (fun r _ _ _ => r = some (vi 1)) 113 ρ0 K Z 1419 [(0, vr 1020), (1, vr 0), (2, vr 87), (3, vi i)] [] μ2) : Go l D cA (some (N, xs)) RL cL_law 4 (some .boolean) (BF, BK, BZ) (fun r _ _ _ => r = some (vi 1)) 113 ρ0 K Z 977 [(0, vr 1020), (1, vr 0), (2, vr 87), (3, vi i)] [] μ := by
  have hBF : ∀ d : Nat, Nat.ble (d + 1) 79 = true → Nat.ble (d + 1) BF = true := fun d h => Nat.ble_eq_true_of_le (Nat.le_trans (Nat.le_of_ble_eq_true h) hB79)
  refine go_aload_n dL_law_977 rfl ?_
  refine go_aload_n dL_law_978 rfl ?_
  refine go_iload_n dL_law_979 rfl ?_
  refine go_iconst dL_law_980 rfl ?_
  refine go_iadd dL_law_981 ⟨by omega, by omega⟩ ?_
  refine go_sld dL_law_982 rfl (by omega) (by omega) ?_
  refine go_aload_n dL_law_983 rfl ?_
  refine go_iload_n dL_law_984 rfl ?_
  refine go_iconst dL_law_985 rfl ?_
  refine go_iadd dL_law_986 ⟨by omega, by omega⟩ ?_
  refine go_sld dL_law_987 rfl (by omega) (by omega) ?_
  refine go_aload_n dL_law_988 rfl ?_
  refine go_iload_n dL_law_989 rfl ?_
  refine go_iconst dL_law_990 rfl ?_
  refine go_iadd dL_law_991 ⟨by omega, by omega⟩ ?_
  refine go_sld dL_law_992 rfl (by omega) (by omega) ?_
  refine go_vI (ci := 8) dL_law_993 (ct_X9_sheet _ _ _) ml_L_123 mc_X9_sheet mv_X9_sheet rfl (by decide) rfl rfl ⟨hBF _ rfl, rfl⟩ hKZ rfl rfl rfl (fun x1 μ1 h1 => ?_)
  have hF := cf_sheet h1
  refine go_aload_n dL_law_996 rfl ?_
  refine go_aload_n dL_law_997 rfl ?_
  refine go_iload_n dL_law_998 rfl ?_
  refine go_iconst dL_law_999 rfl ?_
  refine go_iadd dL_law_1000 ⟨by omega, by omega⟩ ?_
  refine go_sld dL_law_1001 rfl (by omega) (by omega) ?_
  refine go_aload_n dL_law_1002 rfl ?_
  refine go_iload_n dL_law_1003 rfl ?_
  refine go_iconst dL_law_1004 rfl ?_
  refine go_iadd dL_law_1005 ⟨by omega, by omega⟩ ?_
  refine go_sld dL_law_1006 rfl (by omega) (by omega) ?_
  refine go_aload_n dL_law_1007 rfl ?_
  refine go_iload_n dL_law_1008 rfl ?_
  refine go_iconst dL_law_1009 rfl ?_
  refine go_iadd dL_law_1010 ⟨by omega, by omega⟩ ?_
  refine go_sld dL_law_1011 rfl (by omega) (by omega) ?_
  refine go_vI (ci := 9) dL_law_1012 (ct_X10_sheet _ _ _) ml_L_126 mc_X10_sheet mv_X10_sheet rfl (by decide) rfl rfl ⟨hBF _ rfl, rfl⟩ hKZ rfl rfl rfl (fun x2 μ2 h2 => ?_)
  obtain ⟨e12, hS2⟩ := st_sheet _ _ _ hS h1 h2
  refine go_icmp_eq (tgt := 1419) dL_law_1015 rfl (fun _ => ?_) (fun h => absurd e12 h)
  exact go_drop (kn μ2 hS2) rfl
set_option maxRecDepth 100000 in
set_option maxHeartbeats 4000000 in
theorem lc_27 {l : Launch} {D : va_G} {cA : Nat → ClassId} {N : Nat} {xs : Nat → Int} {BF BK BZ K Z : Nat} (hN : N ≤ 3072) (hxs : ∀ j, iR (xs j)) (hB79 : 79 ≤ BF) (hKZ : K ≤ BK ∧ Z ≤ BZ) {i : Int} {μ : Mem} (i0 : 0 ≤ i) (i1 : i + 6 ≤ (N : Nat)) (hS : Sim μ) (kn : ∀ μ2, Sim μ2 → Go l D cA (some (N, xs)) RL cL_law 4 (some .boolean) (BF, BK, BZ) (fun r _ _ _ => r = some (vi 1)) 113 ρ0 K Z 1419 [(0, vr 1020), (1, vr 0), (2, vr 87), (3, vi i)] [] μ2) : Go l D cA (some (N, xs)) RL cL_law 4 (some .boolean) (BF, BK, BZ) (fun r _ _ _ => r = some (vi 1)) 113 ρ0 K Z 1020 [(0, vr 1020), (1, vr 0), (2, vr 87), (3, vi i)] [] μ := by
  have hBF : ∀ d : Nat, Nat.ble (d + 1) 79 = true → Nat.ble (d + 1) BF = true := fun d h => Nat.ble_eq_true_of_le (Nat.le_trans (Nat.le_of_ble_eq_true h) hB79)
  refine go_aload_n dL_law_1020 rfl ?_
  refine go_aload_n dL_law_1021 rfl ?_
  refine go_iload_n dL_law_1022 rfl ?_
  refine go_iconst dL_law_1023 rfl ?_
  refine go_iadd dL_law_1024 ⟨by omega, by omega⟩ ?_
  refine go_sld dL_law_1025 rfl (by omega) (by omega) ?_
  refine go_aload_n dL_law_1026 rfl ?_
  refine go_iload_n dL_law_1027 rfl ?_
  refine go_iconst dL_law_1028 rfl ?_
  refine go_iadd dL_law_1029 ⟨by omega, by omega⟩ ?_
  refine go_sld dL_law_1030 rfl (by omega) (by omega) ?_
  refine go_aload_n dL_law_1031 rfl ?_
  refine go_iload_n dL_law_1032 rfl ?_
  refine go_iconst dL_law_1033 rfl ?_
  refine go_iadd dL_law_1034 ⟨by omega, by omega⟩ ?_
  refine go_sld dL_law_1035 rfl (by omega) (by omega) ?_
  refine go_vI (ci := 8) dL_law_1036 (ct_X9_mark (si_sh hS) _ _ _) ml_L_127 mc_X9_mark mv_X9_mark rfl (by decide) rfl rfl ⟨hBF _ rfl, rfl⟩ hKZ rfl rfl rfl (fun x1 μ1 h1 => ?_)
  have hF := cf_mark h1
  refine go_aload_n dL_law_1039 rfl ?_
  refine go_aload_n dL_law_1040 rfl ?_
  refine go_iload_n dL_law_1041 rfl ?_
  refine go_iconst dL_law_1042 rfl ?_
  refine go_iadd dL_law_1043 ⟨by omega, by omega⟩ ?_
  refine go_sld dL_law_1044 rfl (by omega) (by omega) ?_
  refine go_aload_n dL_law_1045 rfl ?_
  refine go_iload_n dL_law_1046 rfl ?_
  refine go_iconst dL_law_1047 rfl ?_
  refine go_iadd dL_law_1048 ⟨by omega, by omega⟩ ?_
  refine go_sld dL_law_1049 rfl (by omega) (by omega) ?_
  refine go_aload_n dL_law_1050 rfl ?_
  refine go_iload_n dL_law_1051 rfl ?_
  refine go_iconst dL_law_1052 rfl ?_
  refine go_iadd dL_law_1053 ⟨by omega, by omega⟩ ?_
  refine go_sld dL_law_1054 rfl (by omega) (by omega) ?_
  refine go_vI (ci := 9) dL_law_1055 (ct_X10_mark (si_shM hS hF) _ _ _) ml_L_130 mc_X10_mark mv_X10_mark rfl (by decide) rfl rfl ⟨hBF _ rfl, rfl⟩ hKZ rfl rfl rfl (fun x2 μ2 h2 => ?_)
  obtain ⟨e12, hS2⟩ := st_mark _ _ _ hS h1 h2
  refine go_icmp_eq (tgt := 1419) dL_law_1058 rfl (fun _ => ?_) (fun h => absurd e12 h)
  exact go_drop (kn μ2 hS2) rfl
set_option maxRecDepth 100000 in
set_option maxHeartbeats 4000000 in
theorem lc_28 {l : Launch} {D : va_G} {cA : Nat → ClassId} {N : Nat} {xs : Nat → Int} {BF BK BZ K Z : Nat} (hN : N ≤ 3072) (hxs : ∀ j, iR (xs j)) (hB79 : 79 ≤ BF) (hKZ : K ≤ BK ∧ Z ≤ BZ) {i : Int} {μ : Mem} (i0 : 0 ≤ i) (i1 : i + 6 ≤ (N : Nat)) (hS : Sim μ) (kn : ∀ μ2, Sim μ2 → Go l D cA (some (N, xs)) RL cL_law 4 (some .boolean) (BF, BK, BZ) (fun r _ _ _ => r = some (vi 1)) 113 ρ0 K Z 1419 [(0, vr 1020), (1, vr 0), (2, vr 87), (3, vi i)] [] μ2) : Go l D cA (some (N, xs)) RL cL_law 4 (some .boolean) (BF, BK, BZ) (fun r _ _ _ => r = some (vi 1)) 113 ρ0 K Z 1063 [(0, vr 1020), (1, vr 0), (2, vr 87), (3, vi i)] [] μ := by
  have hBF : ∀ d : Nat, Nat.ble (d + 1) 79 = true → Nat.ble (d + 1) BF = true := fun d h => Nat.ble_eq_true_of_le (Nat.le_trans (Nat.le_of_ble_eq_true h) hB79)
  refine go_aload_n dL_law_1063 rfl ?_
  refine go_aload_n dL_law_1064 rfl ?_
  refine go_iload_n dL_law_1065 rfl ?_
  refine go_iconst dL_law_1066 rfl ?_
  refine go_iadd dL_law_1067 ⟨by omega, by omega⟩ ?_
  refine go_sld dL_law_1068 rfl (by omega) (by omega) ?_
  refine go_aload_n dL_law_1069 rfl ?_
  refine go_iload_n dL_law_1070 rfl ?_
  refine go_iconst dL_law_1071 rfl ?_
  refine go_iadd dL_law_1072 ⟨by omega, by omega⟩ ?_
  refine go_sld dL_law_1073 rfl (by omega) (by omega) ?_
  refine go_vI (ci := 8) dL_law_1074 (ct_X9_pour hS.1.1 (si_sh hS) _ _) ml_L_131 mc_X9_pour mv_X9_pour rfl (by decide) rfl rfl ⟨hBF _ rfl, rfl⟩ hKZ rfl rfl rfl (fun x1 μ1 h1 => ?_)
  have hF := cf_pour h1
  refine go_aload_n dL_law_1077 rfl ?_
  refine go_aload_n dL_law_1078 rfl ?_
  refine go_iload_n dL_law_1079 rfl ?_
  refine go_iconst dL_law_1080 rfl ?_
  refine go_iadd dL_law_1081 ⟨by omega, by omega⟩ ?_
  refine go_sld dL_law_1082 rfl (by omega) (by omega) ?_
  refine go_aload_n dL_law_1083 rfl ?_
  refine go_iload_n dL_law_1084 rfl ?_
  refine go_iconst dL_law_1085 rfl ?_
  refine go_iadd dL_law_1086 ⟨by omega, by omega⟩ ?_
  refine go_sld dL_law_1087 rfl (by omega) (by omega) ?_
  refine go_vI (ci := 9) dL_law_1088 (ct_X10_pour (si_shM hS hF) _ _) ml_L_134 mc_X10_pour mv_X10_pour rfl (by decide) rfl rfl ⟨hBF _ rfl, rfl⟩ hKZ rfl rfl rfl (fun x2 μ2 h2 => ?_)
  obtain ⟨e12, hS2⟩ := st_pour _ _ hS h1 h2
  refine go_icmp_eq (tgt := 1419) dL_law_1091 rfl (fun _ => ?_) (fun h => absurd e12 h)
  exact go_drop (kn μ2 hS2) rfl
set_option maxRecDepth 100000 in
set_option maxHeartbeats 4000000 in
theorem lc_29 {l : Launch} {D : va_G} {cA : Nat → ClassId} {N : Nat} {xs : Nat → Int} {BF BK BZ K Z : Nat} (hN : N ≤ 3072) (hxs : ∀ j, iR (xs j)) (hB79 : 79 ≤ BF) (hKZ : K ≤ BK ∧ Z ≤ BZ) {i : Int} {μ : Mem} (i0 : 0 ≤ i) (i1 : i + 6 ≤ (N : Nat)) (hS : Sim μ) (kn : ∀ μ2, Sim μ2 → Go l D cA (some (N, xs)) RL cL_law 4 (some .boolean) (BF, BK, BZ) (fun r _ _ _ => r = some (vi 1)) 113 ρ0 K Z 1419 [(0, vr 1020), (1, vr 0), (2, vr 87), (3, vi i)] [] μ2) : Go l D cA (some (N, xs)) RL cL_law 4 (some .boolean) (BF, BK, BZ) (fun r _ _ _ => r = some (vi 1)) 113 ρ0 K Z 1096 [(0, vr 1020), (1, vr 0), (2, vr 87), (3, vi i)] [] μ := by
  have hBF : ∀ d : Nat, Nat.ble (d + 1) 79 = true → Nat.ble (d + 1) BF = true := fun d h => Nat.ble_eq_true_of_le (Nat.le_trans (Nat.le_of_ble_eq_true h) hB79)
  refine go_aload_n dL_law_1096 rfl ?_
  refine go_aload_n dL_law_1097 rfl ?_
  refine go_iload_n dL_law_1098 rfl ?_
  refine go_iconst dL_law_1099 rfl ?_
  refine go_iadd dL_law_1100 ⟨by omega, by omega⟩ ?_
  refine go_sld dL_law_1101 rfl (by omega) (by omega) ?_
  refine go_vI (ci := 8) dL_law_1102 (ct_X9_reads hS.1.1 (si_sh hS) _) ml_L_135 mc_X9_reads mv_X9_reads rfl (by decide) rfl rfl ⟨hBF _ rfl, rfl⟩ hKZ rfl rfl rfl (fun x1 μ1 h1 => ?_)
  have hF := cf_reads h1
  refine go_aload_n dL_law_1105 rfl ?_
  refine go_aload_n dL_law_1106 rfl ?_
  refine go_iload_n dL_law_1107 rfl ?_
  refine go_iconst dL_law_1108 rfl ?_
  refine go_iadd dL_law_1109 ⟨by omega, by omega⟩ ?_
  refine go_sld dL_law_1110 rfl (by omega) (by omega) ?_
  refine go_vI (ci := 9) dL_law_1111 (ct_X10_reads (si_md hS hF) (si_shM hS hF) _) ml_L_138 mc_X10_reads mv_X10_reads rfl (by decide) rfl rfl ⟨hBF _ rfl, rfl⟩ hKZ rfl rfl rfl (fun x2 μ2 h2 => ?_)
  obtain ⟨e12, hS2⟩ := st_reads _ hS h1 h2
  refine go_icmp_eq (tgt := 1419) dL_law_1114 rfl (fun _ => ?_) (fun h => absurd e12 h)
  exact go_drop (kn μ2 hS2) rfl
set_option maxRecDepth 100000 in
set_option maxHeartbeats 4000000 in
theorem lc_30 {l : Launch} {D : va_G} {cA : Nat → ClassId} {N : Nat} {xs : Nat → Int} {BF BK BZ K Z : Nat} (hN : N ≤ 3072) (hxs : ∀ j, iR (xs j)) (hB79 : 79 ≤ BF) (hKZ : K ≤ BK ∧ Z ≤ BZ) {i : Int} {μ : Mem} (i0 : 0 ≤ i) (i1 : i + 6 ≤ (N : Nat)) (hS : Sim μ) (kn : ∀ μ2, Sim μ2 → Go l D cA (some (N, xs)) RL cL_law 4 (some .boolean) (BF, BK, BZ) (fun r _ _ _ => r = some (vi 1)) 113 ρ0 K Z 1419 [(0, vr 1020), (1, vr 0), (2, vr 87), (3, vi i)] [] μ2) : Go l D cA (some (N, xs)) RL cL_law 4 (some .boolean) (BF, BK, BZ) (fun r _ _ _ => r = some (vi 1)) 113 ρ0 K Z 1119 [(0, vr 1020), (1, vr 0), (2, vr 87), (3, vi i)] [] μ := by
  have hBF : ∀ d : Nat, Nat.ble (d + 1) 79 = true → Nat.ble (d + 1) BF = true := fun d h => Nat.ble_eq_true_of_le (Nat.le_trans (Nat.le_of_ble_eq_true h) hB79)
  refine go_aload_n dL_law_1119 rfl ?_
  refine go_aload_n dL_law_1120 rfl ?_
  refine go_iload_n dL_law_1121 rfl ?_
  refine go_iconst dL_law_1122 rfl ?_
  refine go_iadd dL_law_1123 ⟨by omega, by omega⟩ ?_
  refine go_sld dL_law_1124 rfl (by omega) (by omega) ?_
  refine go_aload_n dL_law_1125 rfl ?_
  refine go_iload_n dL_law_1126 rfl ?_
  refine go_iconst dL_law_1127 rfl ?_
  refine go_iadd dL_law_1128 ⟨by omega, by omega⟩ ?_
  refine go_sld dL_law_1129 rfl (by omega) (by omega) ?_
  refine go_aload_n dL_law_1130 rfl ?_
  refine go_iload_n dL_law_1131 rfl ?_
  refine go_iconst dL_law_1132 rfl ?_
  refine go_iadd dL_law_1133 ⟨by omega, by omega⟩ ?_
  refine go_sld dL_law_1134 rfl (by omega) (by omega) ?_
  refine go_aload_n dL_law_1135 rfl ?_
  refine go_iload_n dL_law_1136 rfl ?_
  refine go_iconst dL_law_1137 rfl ?_
  refine go_iadd dL_law_1138 ⟨by omega, by omega⟩ ?_
  refine go_sld dL_law_1139 rfl (by omega) (by omega) ?_
  refine go_aload_n dL_law_1140 rfl ?_
  refine go_iload_n dL_law_1141 rfl ?_
  refine go_iconst dL_law_1142 rfl ?_
  refine go_iadd dL_law_1143 ⟨by omega, by omega⟩ ?_
  refine go_sld dL_law_1144 rfl (by omega) (by omega) ?_
  refine go_vI (ci := 8) dL_law_1145 (ct_X9_copy (si_sh hS) _ _ _ _ _) ml_L_139 mc_X9_copy mv_X9_copy rfl (by decide) rfl rfl ⟨hBF _ rfl, rfl⟩ hKZ rfl rfl rfl (fun x1 μ1 h1 => ?_)
  have hF := cf_copy h1
  refine go_aload_n dL_law_1148 rfl ?_
  refine go_aload_n dL_law_1149 rfl ?_
  refine go_iload_n dL_law_1150 rfl ?_
  refine go_iconst dL_law_1151 rfl ?_
  refine go_iadd dL_law_1152 ⟨by omega, by omega⟩ ?_
  refine go_sld dL_law_1153 rfl (by omega) (by omega) ?_
  refine go_aload_n dL_law_1154 rfl ?_
  refine go_iload_n dL_law_1155 rfl ?_
  refine go_iconst dL_law_1156 rfl ?_
  refine go_iadd dL_law_1157 ⟨by omega, by omega⟩ ?_
  refine go_sld dL_law_1158 rfl (by omega) (by omega) ?_
  refine go_aload_n dL_law_1159 rfl ?_
  refine go_iload_n dL_law_1160 rfl ?_
  refine go_iconst dL_law_1161 rfl ?_
  refine go_iadd dL_law_1162 ⟨by omega, by omega⟩ ?_
  refine go_sld dL_law_1163 rfl (by omega) (by omega) ?_
  refine go_aload_n dL_law_1164 rfl ?_
  refine go_iload_n dL_law_1165 rfl ?_
  refine go_iconst dL_law_1166 rfl ?_
  refine go_iadd dL_law_1167 ⟨by omega, by omega⟩ ?_
  refine go_sld dL_law_1168 rfl (by omega) (by omega) ?_
  refine go_aload_n dL_law_1169 rfl ?_
  refine go_iload_n dL_law_1170 rfl ?_
  refine go_iconst dL_law_1171 rfl ?_
  refine go_iadd dL_law_1172 ⟨by omega, by omega⟩ ?_
  refine go_sld dL_law_1173 rfl (by omega) (by omega) ?_
  refine go_vI (ci := 9) dL_law_1174 (ct_X10_copy (si_shM hS hF) _ _ _ _ _ (hxs _) (hxs _) (hxs _)) ml_L_143 mc_X10_copy mv_X10_copy rfl (by decide) rfl rfl ⟨hBF _ rfl, rfl⟩ hKZ rfl rfl rfl (fun x2 μ2 h2 => ?_)
  obtain ⟨e12, hS2⟩ := st_copy _ _ _ _ _ hS h1 h2
  refine go_icmp_eq (tgt := 1419) dL_law_1177 rfl (fun _ => ?_) (fun h => absurd e12 h)
  exact go_drop (kn μ2 hS2) rfl
set_option maxRecDepth 100000 in
set_option maxHeartbeats 4000000 in
theorem lc_31 {l : Launch} {D : va_G} {cA : Nat → ClassId} {N : Nat} {xs : Nat → Int} {BF BK BZ K Z : Nat} (hN : N ≤ 3072) (hxs : ∀ j, iR (xs j)) (hB79 : 79 ≤ BF) (hKZ : K ≤ BK ∧ Z ≤ BZ) {i : Int} {μ : Mem} (i0 : 0 ≤ i) (i1 : i + 6 ≤ (N : Nat)) (hS : Sim μ) (kn : ∀ μ2, Sim μ2 → Go l D cA (some (N, xs)) RL cL_law 4 (some .boolean) (BF, BK, BZ) (fun r _ _ _ => r = some (vi 1)) 113 ρ0 K Z 1419 [(0, vr 1020), (1, vr 0), (2, vr 87), (3, vi i)] [] μ2) : Go l D cA (some (N, xs)) RL cL_law 4 (some .boolean) (BF, BK, BZ) (fun r _ _ _ => r = some (vi 1)) 113 ρ0 K Z 1182 [(0, vr 1020), (1, vr 0), (2, vr 87), (3, vi i)] [] μ := by
  have hBF : ∀ d : Nat, Nat.ble (d + 1) 79 = true → Nat.ble (d + 1) BF = true := fun d h => Nat.ble_eq_true_of_le (Nat.le_trans (Nat.le_of_ble_eq_true h) hB79)
  refine go_aload_n dL_law_1182 rfl ?_
  refine go_aload_n dL_law_1183 rfl ?_
  refine go_iload_n dL_law_1184 rfl ?_
  refine go_iconst dL_law_1185 rfl ?_
  refine go_iadd dL_law_1186 ⟨by omega, by omega⟩ ?_
  refine go_sld dL_law_1187 rfl (by omega) (by omega) ?_
  refine go_aload_n dL_law_1188 rfl ?_
  refine go_iload_n dL_law_1189 rfl ?_
  refine go_iconst dL_law_1190 rfl ?_
  refine go_iadd dL_law_1191 ⟨by omega, by omega⟩ ?_
  refine go_sld dL_law_1192 rfl (by omega) (by omega) ?_
  refine go_aload_n dL_law_1193 rfl ?_
  refine go_iload_n dL_law_1194 rfl ?_
  refine go_iconst dL_law_1195 rfl ?_
  refine go_iadd dL_law_1196 ⟨by omega, by omega⟩ ?_
  refine go_sld dL_law_1197 rfl (by omega) (by omega) ?_
  refine go_vI (ci := 8) dL_law_1198 (ct_X9_lay hS.1.1 _ _ _) ml_L_144 mc_X9_lay mv_X9_lay rfl (by decide) rfl rfl ⟨hBF _ rfl, rfl⟩ hKZ rfl rfl rfl (fun x1 μ1 h1 => ?_)
  have hF := cf_lay h1
  refine go_aload_n dL_law_1201 rfl ?_
  refine go_aload_n dL_law_1202 rfl ?_
  refine go_iload_n dL_law_1203 rfl ?_
  refine go_iconst dL_law_1204 rfl ?_
  refine go_iadd dL_law_1205 ⟨by omega, by omega⟩ ?_
  refine go_sld dL_law_1206 rfl (by omega) (by omega) ?_
  refine go_aload_n dL_law_1207 rfl ?_
  refine go_iload_n dL_law_1208 rfl ?_
  refine go_iconst dL_law_1209 rfl ?_
  refine go_iadd dL_law_1210 ⟨by omega, by omega⟩ ?_
  refine go_sld dL_law_1211 rfl (by omega) (by omega) ?_
  refine go_aload_n dL_law_1212 rfl ?_
  refine go_iload_n dL_law_1213 rfl ?_
  refine go_iconst dL_law_1214 rfl ?_
  refine go_iadd dL_law_1215 ⟨by omega, by omega⟩ ?_
  refine go_sld dL_law_1216 rfl (by omega) (by omega) ?_
  refine go_vI (ci := 9) dL_law_1217 (ct_X10_lay (si_md hS hF) (si_shM hS hF) _ _ _) ml_L_147 mc_X10_lay mv_X10_lay rfl (by decide) rfl rfl ⟨hBF _ rfl, rfl⟩ hKZ rfl rfl rfl (fun x2 μ2 h2 => ?_)
  obtain ⟨e12, hS2⟩ := st_lay _ _ _ hS h1 h2
  refine go_icmp_eq (tgt := 1419) dL_law_1220 rfl (fun _ => ?_) (fun h => absurd e12 h)
  exact go_drop (kn μ2 hS2) rfl
set_option maxRecDepth 100000 in
set_option maxHeartbeats 4000000 in
theorem lc_32 {l : Launch} {D : va_G} {cA : Nat → ClassId} {N : Nat} {xs : Nat → Int} {BF BK BZ K Z : Nat} (hN : N ≤ 3072) (hxs : ∀ j, iR (xs j)) (hB79 : 79 ≤ BF) (hKZ : K ≤ BK ∧ Z ≤ BZ) {i : Int} {μ : Mem} (i0 : 0 ≤ i) (i1 : i + 6 ≤ (N : Nat)) (hS : Sim μ) (kn : ∀ μ2, Sim μ2 → Go l D cA (some (N, xs)) RL cL_law 4 (some .boolean) (BF, BK, BZ) (fun r _ _ _ => r = some (vi 1)) 113 ρ0 K Z 1419 [(0, vr 1020), (1, vr 0), (2, vr 87), (3, vi i)] [] μ2) : Go l D cA (some (N, xs)) RL cL_law 4 (some .boolean) (BF, BK, BZ) (fun r _ _ _ => r = some (vi 1)) 113 ρ0 K Z 1225 [(0, vr 1020), (1, vr 0), (2, vr 87), (3, vi i)] [] μ := by
  have hBF : ∀ d : Nat, Nat.ble (d + 1) 79 = true → Nat.ble (d + 1) BF = true := fun d h => Nat.ble_eq_true_of_le (Nat.le_trans (Nat.le_of_ble_eq_true h) hB79)
  refine go_aload_n dL_law_1225 rfl ?_
  refine go_aload_n dL_law_1226 rfl ?_
  refine go_iload_n dL_law_1227 rfl ?_
  refine go_iconst dL_law_1228 rfl ?_
  refine go_iadd dL_law_1229 ⟨by omega, by omega⟩ ?_
  refine go_sld dL_law_1230 rfl (by omega) (by omega) ?_
  refine go_aload_n dL_law_1231 rfl ?_
  refine go_iload_n dL_law_1232 rfl ?_
  refine go_iconst dL_law_1233 rfl ?_
  refine go_iadd dL_law_1234 ⟨by omega, by omega⟩ ?_
  refine go_sld dL_law_1235 rfl (by omega) (by omega) ?_
  refine go_vI (ci := 8) dL_law_1236 (ct_X9_ask (si_sl hS) _ _) ml_L_148 mc_X9_ask mv_X9_ask rfl (by decide) rfl rfl ⟨hBF _ rfl, rfl⟩ hKZ rfl rfl rfl (fun x1 μ1 h1 => ?_)
  have hF := cf_ask h1
  refine go_aload_n dL_law_1239 rfl ?_
  refine go_aload_n dL_law_1240 rfl ?_
  refine go_iload_n dL_law_1241 rfl ?_
  refine go_iconst dL_law_1242 rfl ?_
  refine go_iadd dL_law_1243 ⟨by omega, by omega⟩ ?_
  refine go_sld dL_law_1244 rfl (by omega) (by omega) ?_
  refine go_aload_n dL_law_1245 rfl ?_
  refine go_iload_n dL_law_1246 rfl ?_
  refine go_iconst dL_law_1247 rfl ?_
  refine go_iadd dL_law_1248 ⟨by omega, by omega⟩ ?_
  refine go_sld dL_law_1249 rfl (by omega) (by omega) ?_
  refine go_vI (ci := 9) dL_law_1250 (ct_X10_ask _ _) ml_L_151 mc_X10_ask mv_X10_ask rfl (by decide) rfl rfl ⟨hBF _ rfl, rfl⟩ hKZ rfl rfl rfl (fun x2 μ2 h2 => ?_)
  obtain ⟨e12, hS2⟩ := st_ask _ _ hS h1 h2
  refine go_icmp_eq (tgt := 1419) dL_law_1253 rfl (fun _ => ?_) (fun h => absurd e12 h)
  exact go_drop (kn μ2 hS2) rfl
set_option maxRecDepth 100000 in
set_option maxHeartbeats 4000000 in
theorem lc_33 {l : Launch} {D : va_G} {cA : Nat → ClassId} {N : Nat} {xs : Nat → Int} {BF BK BZ K Z : Nat} (hN : N ≤ 3072) (hxs : ∀ j, iR (xs j)) (hB79 : 79 ≤ BF) (hKZ : K ≤ BK ∧ Z ≤ BZ) {i : Int} {μ : Mem} (i0 : 0 ≤ i) (i1 : i + 6 ≤ (N : Nat)) (hS : Sim μ) (kn : ∀ μ2, Sim μ2 → Go l D cA (some (N, xs)) RL cL_law 4 (some .boolean) (BF, BK, BZ) (fun r _ _ _ => r = some (vi 1)) 113 ρ0 K Z 1419 [(0, vr 1020), (1, vr 0), (2, vr 87), (3, vi i)] [] μ2) : Go l D cA (some (N, xs)) RL cL_law 4 (some .boolean) (BF, BK, BZ) (fun r _ _ _ => r = some (vi 1)) 113 ρ0 K Z 1258 [(0, vr 1020), (1, vr 0), (2, vr 87), (3, vi i)] [] μ := by
  have hBF : ∀ d : Nat, Nat.ble (d + 1) 79 = true → Nat.ble (d + 1) BF = true := fun d h => Nat.ble_eq_true_of_le (Nat.le_trans (Nat.le_of_ble_eq_true h) hB79)
  refine go_aload_n dL_law_1258 rfl ?_
  refine go_aload_n dL_law_1259 rfl ?_
  refine go_iload_n dL_law_1260 rfl ?_
  refine go_iconst dL_law_1261 rfl ?_
  refine go_iadd dL_law_1262 ⟨by omega, by omega⟩ ?_
  refine go_sld dL_law_1263 rfl (by omega) (by omega) ?_
  refine go_aload_n dL_law_1264 rfl ?_
  refine go_iload_n dL_law_1265 rfl ?_
  refine go_iconst dL_law_1266 rfl ?_
  refine go_iadd dL_law_1267 ⟨by omega, by omega⟩ ?_
  refine go_sld dL_law_1268 rfl (by omega) (by omega) ?_
  refine go_vI (ci := 8) dL_law_1269 (ct_X9_item (si_sl hS) _ _) ml_L_152 mc_X9_item mv_X9_item rfl (by decide) rfl rfl ⟨hBF _ rfl, rfl⟩ hKZ rfl rfl rfl (fun x1 μ1 h1 => ?_)
  have hF := cf_item h1
  refine go_aload_n dL_law_1272 rfl ?_
  refine go_aload_n dL_law_1273 rfl ?_
  refine go_iload_n dL_law_1274 rfl ?_
  refine go_iconst dL_law_1275 rfl ?_
  refine go_iadd dL_law_1276 ⟨by omega, by omega⟩ ?_
  refine go_sld dL_law_1277 rfl (by omega) (by omega) ?_
  refine go_aload_n dL_law_1278 rfl ?_
  refine go_iload_n dL_law_1279 rfl ?_
  refine go_iconst dL_law_1280 rfl ?_
  refine go_iadd dL_law_1281 ⟨by omega, by omega⟩ ?_
  refine go_sld dL_law_1282 rfl (by omega) (by omega) ?_
  refine go_vI (ci := 9) dL_law_1283 (ct_X10_item (si_slM hS hF) _ _) ml_L_155 mc_X10_item mv_X10_item rfl (by decide) rfl rfl ⟨hBF _ rfl, rfl⟩ hKZ rfl rfl rfl (fun x2 μ2 h2 => ?_)
  obtain ⟨e12, hS2⟩ := st_item _ _ hS h1 h2
  refine go_icmp_eq (tgt := 1419) dL_law_1286 rfl (fun _ => ?_) (fun h => absurd e12 h)
  exact go_drop (kn μ2 hS2) rfl
set_option maxRecDepth 100000 in
set_option maxHeartbeats 4000000 in
theorem lc_34 {l : Launch} {D : va_G} {cA : Nat → ClassId} {N : Nat} {xs : Nat → Int} {BF BK BZ K Z : Nat} (hN : N ≤ 3072) (hxs : ∀ j, iR (xs j)) (hB79 : 79 ≤ BF) (hKZ : K ≤ BK ∧ Z ≤ BZ) {i : Int} {μ : Mem} (i0 : 0 ≤ i) (i1 : i + 6 ≤ (N : Nat)) (hS : Sim μ) (kn : ∀ μ2, Sim μ2 → Go l D cA (some (N, xs)) RL cL_law 4 (some .boolean) (BF, BK, BZ) (fun r _ _ _ => r = some (vi 1)) 113 ρ0 K Z 1419 [(0, vr 1020), (1, vr 0), (2, vr 87), (3, vi i)] [] μ2) : Go l D cA (some (N, xs)) RL cL_law 4 (some .boolean) (BF, BK, BZ) (fun r _ _ _ => r = some (vi 1)) 113 ρ0 K Z 1291 [(0, vr 1020), (1, vr 0), (2, vr 87), (3, vi i)] [] μ := by
  have hBF : ∀ d : Nat, Nat.ble (d + 1) 79 = true → Nat.ble (d + 1) BF = true := fun d h => Nat.ble_eq_true_of_le (Nat.le_trans (Nat.le_of_ble_eq_true h) hB79)
  refine go_aload_n dL_law_1291 rfl ?_
  refine go_aload_n dL_law_1292 rfl ?_
  refine go_iload_n dL_law_1293 rfl ?_
  refine go_iconst dL_law_1294 rfl ?_
  refine go_iadd dL_law_1295 ⟨by omega, by omega⟩ ?_
  refine go_sld dL_law_1296 rfl (by omega) (by omega) ?_
  refine go_aload_n dL_law_1297 rfl ?_
  refine go_iload_n dL_law_1298 rfl ?_
  refine go_iconst dL_law_1299 rfl ?_
  refine go_iadd dL_law_1300 ⟨by omega, by omega⟩ ?_
  refine go_sld dL_law_1301 rfl (by omega) (by omega) ?_
  refine go_vI (ci := 8) dL_law_1302 (ct_X9_rest (si_sl hS) _ _) ml_L_156 mc_X9_rest mv_X9_rest rfl (by decide) rfl rfl ⟨hBF _ rfl, rfl⟩ hKZ rfl rfl rfl (fun x1 μ1 h1 => ?_)
  have hF := cf_rest h1
  refine go_aload_n dL_law_1305 rfl ?_
  refine go_aload_n dL_law_1306 rfl ?_
  refine go_iload_n dL_law_1307 rfl ?_
  refine go_iconst dL_law_1308 rfl ?_
  refine go_iadd dL_law_1309 ⟨by omega, by omega⟩ ?_
  refine go_sld dL_law_1310 rfl (by omega) (by omega) ?_
  refine go_aload_n dL_law_1311 rfl ?_
  refine go_iload_n dL_law_1312 rfl ?_
  refine go_iconst dL_law_1313 rfl ?_
  refine go_iadd dL_law_1314 ⟨by omega, by omega⟩ ?_
  refine go_sld dL_law_1315 rfl (by omega) (by omega) ?_
  refine go_vI (ci := 9) dL_law_1316 (ct_X10_rest (si_slM hS hF) _ _) ml_L_159 mc_X10_rest mv_X10_rest rfl (by decide) rfl rfl ⟨hBF _ rfl, rfl⟩ hKZ rfl rfl rfl (fun x2 μ2 h2 => ?_)
  obtain ⟨e12, hS2⟩ := st_rest _ _ hS h1 h2
  refine go_icmp_eq (tgt := 1419) dL_law_1319 rfl (fun _ => ?_) (fun h => absurd e12 h)
  exact go_drop (kn μ2 hS2) rfl
set_option maxRecDepth 100000 in
set_option maxHeartbeats 4000000 in
theorem lc_35 {l : Launch} {D : va_G} {cA : Nat → ClassId} {N : Nat} {xs : Nat → Int} {BF BK BZ K Z : Nat} (hN : N ≤ 3072) (hxs : ∀ j, iR (xs j)) (hB79 : 79 ≤ BF) (hKZ : K ≤ BK ∧ Z ≤ BZ) {i : Int} {μ : Mem} (i0 : 0 ≤ i) (i1 : i + 6 ≤ (N : Nat)) (hS : Sim μ) (kn : ∀ μ2, Sim μ2 → Go l D cA (some (N, xs)) RL cL_law 4 (some .boolean) (BF, BK, BZ) (fun r _ _ _ => r = some (vi 1)) 113 ρ0 K Z 1419 [(0, vr 1020), (1, vr 0), (2, vr 87), (3, vi i)] [] μ2) : Go l D cA (some (N, xs)) RL cL_law 4 (some .boolean) (BF, BK, BZ) (fun r _ _ _ => r = some (vi 1)) 113 ρ0 K Z 1324 [(0, vr 1020), (1, vr 0), (2, vr 87), (3, vi i)] [] μ := by
  have hBF : ∀ d : Nat, Nat.ble (d + 1) 79 = true → Nat.ble (d + 1) BF = true := fun d h => Nat.ble_eq_true_of_le (Nat.le_trans (Nat.le_of_ble_eq_true h) hB79)
  refine go_aload_n dL_law_1324 rfl ?_
  refine go_aload_n dL_law_1325 rfl ?_
  refine go_iload_n dL_law_1326 rfl ?_
  refine go_iconst dL_law_1327 rfl ?_
  refine go_iadd dL_law_1328 ⟨by omega, by omega⟩ ?_
  refine go_sld dL_law_1329 rfl (by omega) (by omega) ?_
  refine go_vI (ci := 8) dL_law_1330 (ct_X9_tell hS.2.2.2.2.2.2.2 _) ml_L_160 mc_X9_tell mv_X9_tell rfl (by decide) rfl rfl ⟨hBF _ rfl, rfl⟩ hKZ rfl rfl rfl (fun x1 μ1 h1 => ?_)
  have hF := cf_tell h1
  refine go_aload_n dL_law_1333 rfl ?_
  refine go_aload_n dL_law_1334 rfl ?_
  refine go_iload_n dL_law_1335 rfl ?_
  refine go_iconst dL_law_1336 rfl ?_
  refine go_iadd dL_law_1337 ⟨by omega, by omega⟩ ?_
  refine go_sld dL_law_1338 rfl (by omega) (by omega) ?_
  refine go_vI (ci := 9) dL_law_1339 (ct_X10_tell (si_w hS hF) _) ml_L_163 mc_X10_tell mv_X10_tell rfl (by decide) rfl rfl ⟨hBF _ rfl, rfl⟩ hKZ rfl rfl rfl (fun x2 μ2 h2 => ?_)
  obtain ⟨e12, hS2⟩ := st_tell _ hS h1 h2
  refine go_icmp_eq (tgt := 1419) dL_law_1342 rfl (fun _ => ?_) (fun h => absurd e12 h)
  exact go_drop (kn μ2 hS2) rfl
set_option maxRecDepth 100000 in
set_option maxHeartbeats 4000000 in
theorem lc_36 {l : Launch} {D : va_G} {cA : Nat → ClassId} {N : Nat} {xs : Nat → Int} {BF BK BZ K Z : Nat} (hN : N ≤ 3072) (hxs : ∀ j, iR (xs j)) (hB79 : 79 ≤ BF) (hKZ : K ≤ BK ∧ Z ≤ BZ) {i : Int} {μ : Mem} (i0 : 0 ≤ i) (i1 : i + 6 ≤ (N : Nat)) (hS : Sim μ) (kn : ∀ μ2, Sim μ2 → Go l D cA (some (N, xs)) RL cL_law 4 (some .boolean) (BF, BK, BZ) (fun r _ _ _ => r = some (vi 1)) 113 ρ0 K Z 1419 [(0, vr 1020), (1, vr 0), (2, vr 87), (3, vi i)] [] μ2) : Go l D cA (some (N, xs)) RL cL_law 4 (some .boolean) (BF, BK, BZ) (fun r _ _ _ => r = some (vi 1)) 113 ρ0 K Z 1347 [(0, vr 1020), (1, vr 0), (2, vr 87), (3, vi i)] [] μ := by
  have hBF : ∀ d : Nat, Nat.ble (d + 1) 79 = true → Nat.ble (d + 1) BF = true := fun d h => Nat.ble_eq_true_of_le (Nat.le_trans (Nat.le_of_ble_eq_true h) hB79)
  refine go_aload_n dL_law_1347 rfl ?_
  refine go_aload_n dL_law_1348 rfl ?_
  refine go_iload_n dL_law_1349 rfl ?_
  refine go_iconst dL_law_1350 rfl ?_
  refine go_iadd dL_law_1351 ⟨by omega, by omega⟩ ?_
  refine go_sld dL_law_1352 rfl (by omega) (by omega) ?_
  refine go_vI (ci := 8) dL_law_1353 (ct_X9_check (fun a => (hS.2.1.2.2 a).1.1) hS.2.2.2.2.2.2.2 _) ml_L_164 mc_X9_check mv_X9_check rfl (by decide) rfl rfl ⟨hBF _ rfl, rfl⟩ hKZ rfl rfl rfl (fun x1 μ1 h1 => ?_)
  have hF := cf_check h1
  refine go_aload_n dL_law_1356 rfl ?_
  refine go_aload_n dL_law_1357 rfl ?_
  refine go_iload_n dL_law_1358 rfl ?_
  refine go_iconst dL_law_1359 rfl ?_
  refine go_iadd dL_law_1360 ⟨by omega, by omega⟩ ?_
  refine go_sld dL_law_1361 rfl (by omega) (by omega) ?_
  refine go_vI (ci := 9) dL_law_1362 (ct_X10_check (si_md9 hS hF) (si_w hS hF) _) ml_L_167 mc_X10_check mv_X10_check rfl (by decide) rfl rfl ⟨hBF _ rfl, rfl⟩ hKZ rfl rfl rfl (fun x2 μ2 h2 => ?_)
  obtain ⟨e12, hS2⟩ := st_check _ hS h1 h2
  refine go_icmp_eq (tgt := 1419) dL_law_1365 rfl (fun _ => ?_) (fun h => absurd e12 h)
  exact go_drop (kn μ2 hS2) rfl
set_option maxRecDepth 100000 in
set_option maxHeartbeats 4000000 in
theorem lc_37 {l : Launch} {D : va_G} {cA : Nat → ClassId} {N : Nat} {xs : Nat → Int} {BF BK BZ K Z : Nat} (hN : N ≤ 3072) (hxs : ∀ j, iR (xs j)) (hB79 : 79 ≤ BF) (hKZ : K ≤ BK ∧ Z ≤ BZ) {i : Int} {μ : Mem} (i0 : 0 ≤ i) (i1 : i + 6 ≤ (N : Nat)) (hS : Sim μ) (kn : ∀ μ2, Sim μ2 → Go l D cA (some (N, xs)) RL cL_law 4 (some .boolean) (BF, BK, BZ) (fun r _ _ _ => r = some (vi 1)) 113 ρ0 K Z 1419 [(0, vr 1020), (1, vr 0), (2, vr 87), (3, vi i)] [] μ2) : Go l D cA (some (N, xs)) RL cL_law 4 (some .boolean) (BF, BK, BZ) (fun r _ _ _ => r = some (vi 1)) 113 ρ0 K Z 1370 [(0, vr 1020), (1, vr 0), (2, vr 87), (3, vi i)] [] μ := by
  have hBF : ∀ d : Nat, Nat.ble (d + 1) 79 = true → Nat.ble (d + 1) BF = true := fun d h => Nat.ble_eq_true_of_le (Nat.le_trans (Nat.le_of_ble_eq_true h) hB79)
  refine go_aload_n dL_law_1370 rfl ?_
  refine go_vI (ci := 8) dL_law_1371 (ct_X9_keep hS.1.1) ml_L_168 mc_X9_keep mv_X9_keep rfl (by decide) rfl rfl ⟨hBF _ rfl, rfl⟩ hKZ rfl rfl rfl (fun x1 μ1 h1 => ?_)
  have hF := cf_keep h1
  refine go_aload_n dL_law_1374 rfl ?_
  refine go_vI (ci := 9) dL_law_1375 (ct_X10_keep (si_md hS hF)) ml_L_171 mc_X10_keep mv_X10_keep rfl (by decide) rfl rfl ⟨hBF _ rfl, rfl⟩ hKZ rfl rfl rfl (fun x2 μ2 h2 => ?_)
  obtain ⟨e12, hS2⟩ := st_keep  hS h1 h2
  refine go_icmp_eq (tgt := 1419) dL_law_1378 rfl (fun _ => ?_) (fun h => absurd e12 h)
  exact go_drop (kn μ2 hS2) rfl
set_option maxRecDepth 100000 in
set_option maxHeartbeats 4000000 in
theorem lc_38 {l : Launch} {D : va_G} {cA : Nat → ClassId} {N : Nat} {xs : Nat → Int} {BF BK BZ K Z : Nat} (hN : N ≤ 3072) (hxs : ∀ j, iR (xs j)) (hB79 : 79 ≤ BF) (hKZ : K ≤ BK ∧ Z ≤ BZ) {i : Int} {μ : Mem} (i0 : 0 ≤ i) (i1 : i + 6 ≤ (N : Nat)) (hS : Sim μ) (kn : ∀ μ2, Sim μ2 → Go l D cA (some (N, xs)) RL cL_law 4 (some .boolean) (BF, BK, BZ) (fun r _ _ _ => r = some (vi 1)) 113 ρ0 K Z 1419 [(0, vr 1020), (1, vr 0), (2, vr 87), (3, vi i)] [] μ2) : Go l D cA (some (N, xs)) RL cL_law 4 (some .boolean) (BF, BK, BZ) (fun r _ _ _ => r = some (vi 1)) 113 ρ0 K Z 1383 [(0, vr 1020), (1, vr 0), (2, vr 87), (3, vi i)] [] μ := by
  have hBF : ∀ d : Nat, Nat.ble (d + 1) 79 = true → Nat.ble (d + 1) BF = true := fun d h => Nat.ble_eq_true_of_le (Nat.le_trans (Nat.le_of_ble_eq_true h) hB79)
  refine go_aload_n dL_law_1383 rfl ?_
  refine go_vI (ci := 8) dL_law_1384 (ct_X9_back (fun a => (hS.2.1.2.2 a).1.1)) ml_L_172 mc_X9_back mv_X9_back rfl (by decide) rfl rfl ⟨hBF _ rfl, rfl⟩ hKZ rfl rfl rfl (fun x1 μ1 h1 => ?_)
  have hF := cf_back h1
  refine go_aload_n dL_law_1387 rfl ?_
  refine go_vI (ci := 9) dL_law_1388 (ct_X10_back (si_md9 hS hF)) ml_L_175 mc_X10_back mv_X10_back rfl (by decide) rfl rfl ⟨hBF _ rfl, rfl⟩ hKZ rfl rfl rfl (fun x2 μ2 h2 => ?_)
  obtain ⟨e12, hS2⟩ := st_back  hS h1 h2
  refine go_icmp_eq (tgt := 1419) dL_law_1391 rfl (fun _ => ?_) (fun h => absurd e12 h)
  exact go_drop (kn μ2 hS2) rfl
set_option maxRecDepth 100000 in
set_option maxHeartbeats 4000000 in
theorem lc_39 {l : Launch} {D : va_G} {cA : Nat → ClassId} {N : Nat} {xs : Nat → Int} {BF BK BZ K Z : Nat} (hN : N ≤ 3072) (hxs : ∀ j, iR (xs j)) (hB79 : 79 ≤ BF) (hKZ : K ≤ BK ∧ Z ≤ BZ) {i : Int} {μ : Mem} (i0 : 0 ≤ i) (i1 : i + 6 ≤ (N : Nat)) (hS : Sim μ) (kn : ∀ μ2, Sim μ2 → Go l D cA (some (N, xs)) RL cL_law 4 (some .boolean) (BF, BK, BZ) (fun r _ _ _ => r = some (vi 1)) 113 ρ0 K Z 1419 [(0, vr 1020), (1, vr 0), (2, vr 87), (3, vi i)] [] μ2) : Go l D cA (some (N, xs)) RL cL_law 4 (some .boolean) (BF, BK, BZ) (fun r _ _ _ => r = some (vi 1)) 113 ρ0 K Z 1396 [(0, vr 1020), (1, vr 0), (2, vr 87), (3, vi i)] [] μ := by
  have hBF : ∀ d : Nat, Nat.ble (d + 1) 79 = true → Nat.ble (d + 1) BF = true := fun d h => Nat.ble_eq_true_of_le (Nat.le_trans (Nat.le_of_ble_eq_true h) hB79)
  refine go_aload_n dL_law_1396 rfl ?_
  refine go_aload_n dL_law_1397 rfl ?_
  refine go_iload_n dL_law_1398 rfl ?_
  refine go_iconst dL_law_1399 rfl ?_
  refine go_iadd dL_law_1400 ⟨by omega, by omega⟩ ?_
  refine go_sld dL_law_1401 rfl (by omega) (by omega) ?_
  refine go_vI (ci := 8) dL_law_1402 (ct_X9_count hS.1.1 _) ml_L_176 mc_X9_count mv_X9_count rfl (by decide) rfl rfl ⟨hBF _ rfl, rfl⟩ hKZ rfl rfl rfl (fun x1 μ1 h1 => ?_)
  have hF := cf_count h1
  refine go_aload_n dL_law_1405 rfl ?_
  refine go_aload_n dL_law_1406 rfl ?_
  refine go_iload_n dL_law_1407 rfl ?_
  refine go_iconst dL_law_1408 rfl ?_
  refine go_iadd dL_law_1409 ⟨by omega, by omega⟩ ?_
  refine go_sld dL_law_1410 rfl (by omega) (by omega) ?_
  refine go_vI (ci := 9) dL_law_1411 (ct_X10_count (si_md hS hF) _) ml_L_179 mc_X10_count mv_X10_count rfl (by decide) rfl rfl ⟨hBF _ rfl, rfl⟩ hKZ rfl rfl rfl (fun x2 μ2 h2 => ?_)
  obtain ⟨e12, hS2⟩ := st_count _ hS h1 h2
  refine go_icmp_eq (tgt := 1419) dL_law_1414 rfl (fun _ => ?_) (fun h => absurd e12 h)
  exact go_drop (kn μ2 hS2) rfl
