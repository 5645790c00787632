/-! THE RULES of fields, rows and calls -/
section Heap
variable {l : Launch} {D : va_G} {cA : Nat → ClassId} {X : XT} {own : String} {cc : ByteArray} {nL : Nat} {rt : Option FieldType} {B : Nat × Nat × Nat} {Qa : QT} {n : Nat} {ρ : RefM} {k z pc : Nat} {L : List (Nat × AV)} {st : List AV} {μ : Mem}
def FL (own : String) (index ci kf : Nat) (C : String) (T : u_T) (N : Nat) : Prop := vwCl[ci]? = some (C, T, N) ∧ kf < N ∧ (∀ w ∈ u_ws C T N, w ∈ TB) ∧ ci < 20 ∧ (T kf).1 = C ∧ (Cond.fieldLink own index C (T kf).2.1 (T kf).2.2.1 ∈ TB ∨ Cond.fieldLinkNest own index C (T kf).2.1 (T kf).2.2.1 "WhiteSlope" ∈ lw_tbl)
def PL (own : String) (index ci kf : Nat) (C : String) (T : u_T) (N : Nat) (ty : FieldType) : Prop := FL own index ci kf C T N ∧ (∃ ty0 : Nat → FieldType, ∀ k, k < N → parseFieldDescriptor (T k).2.2.1 = some (ty0 k)) ∧ (∀ a, a < N → ∀ b, b < N → a ≠ b → (T a).2.1 ≠ (T b).2.1) ∧ (T kf).2.2.2 = false ∧ parseFieldDescriptor (T kf).2.2.1 = some ty
theorem ent_o {cA : Nat → ClassId} {σ : Nat → Nat} {ρ : Int → Option Nat} {f : Int → Int} {ci N : Nat} (h : ci < 20) : ent cA σ ρ f (ci, N) = .inr (ci, (List.range N).map (fvl σ ρ f ci)) := by
  unfold ent; rw [if_pos h]
theorem ent_i {cA : Nat → ClassId} {σ : Nat → Nat} {ρ : Int → Option Nat} {f : Int → Int} {N : Nat} : ent cA σ ρ f (20, N) = .inl (cA 0, N, .inl (fun j => Int32.ofInt (f (j : Nat)))) := rfl
theorem ent_z {cA : Nat → ClassId} {σ : Nat → Nat} {ρ : Int → Option Nat} {f : Int → Int} {N : Nat} : ent cA σ ρ f (21, N) = .inl (cA 1, N, .inl (fun j => Int32.ofInt (f (j : Nat)))) := rfl
theorem fvl_at {σ : Nat → Nat} {ρ : Int → Option Nat} {f : Int → Int} {ci N kf : Nat} (h : kf < N) : ((List.range N).map (fvl σ ρ f ci))[kf]? = some (fvl σ ρ f ci kf) := by simp [h]
theorem fvl_set {σ : Nat → Nat} {ρ : Int → Option Nat} {f : Int → Int} {ci N kf : Nat} {x : Int} (hr : isRf ci kf = false) : ((List.range N).map (fvl σ ρ f ci)).set kf (.int (Int32.ofInt x)) = (List.range N).map (fvl σ ρ (uf f (kf : Nat) x) ci) := by
  apply List.ext_getElem?
  intro j
  rw [List.getElem?_set]
  by_cases hj : j < N
  · rw [fvl_at hj, fvl_at hj, List.length_map, List.length_range]
    by_cases h : kf = j
    · subst h
      rw [if_pos rfl, if_pos hj]
      unfold fvl
      rw [hr, uf_same]
      rfl
    · rw [if_neg h]
      unfold fvl
      rw [uf_ne (show ((j : Nat) : Int) ≠ (kf : Nat) by omega)]
  · have e1 : ∀ g : Nat → Value, ((List.range N).map g)[j]? = none := fun g => List.getElem?_eq_none (by simp; omega)
    rw [e1, e1, List.length_map, List.length_range]
    by_cases h : kf = j
    · subst h; rw [if_pos rfl, if_neg hj]
    · rw [if_neg h]
theorem wl_o {σ : Nat → Nat} {i ci N : Nat} (hi : i < n) (hs : shp i = (ci, N)) (h : ci < 20) : (wl cA n σ ρ μ)[i]? = some (σ i, .inr (ci, (List.range N).map (fvl σ (ρ i) (μ i) ci))) := by
  rw [wl_at hi, hs, ent_o h]
theorem wl_i {σ : Nat → Nat} {i N : Nat} (hi : i < n) (hs : shp i = (20, N)) : (wl cA n σ ρ μ)[i]? = some (σ i, .inl (cA 0, N, .inl (fun j => Int32.ofInt (μ i (j : Nat))))) := by
  rw [wl_at hi, hs, ent_i]
theorem wl_z {σ : Nat → Nat} {i N : Nat} (hi : i < n) (hs : shp i = (21, N)) : (wl cA n σ ρ μ)[i]? = some (σ i, .inl (cA 1, N, .inl (fun j => Int32.ofInt (μ i (j : Nat))))) := by
  rw [wl_at hi, hs, ent_z]
theorem okM_ud {i : Nat} {a x : Int} (h : okM μ) (hx : iR x) : okM (ud μ i a x) := by
  intro p q
  unfold ud ua
  by_cases e : p = i
  · rw [if_pos e]; unfold uf
    by_cases e2 : q = a
    · rw [if_pos e2]; exact hx
    · rw [if_neg e2]; exact h i q
  · rw [if_neg e]; exact h p q
theorem Wd.upd {A : Nat → Prop} {H0 H H1 : Heap} {locs locs1 : List Loc} {σ : Nat → Nat} {μ' : Mem} {ws : va_W} (h : Wd D cA A H0 H locs σ n ρ μ) (e : ws = wl cA n σ ρ μ') (hM : okM μ') (hP : va_P D vwCl ws H1) (hD : va_D A ws) (hS : va_S A H0 H1 locs1) : Wd D cA A H0 H1 locs1 σ n ρ μ' := by
  subst e
  exact ⟨hP, hD, hS, hM, h.2.2.2.2⟩
theorem go_getv {index ci kf i N : Nat} {C : String} {T : u_T} {v : AV} (d : decode cc pc = .ok (.getfield index, 3)) (F : FL own index ci kf C T N) (hi : i < n) (hs : shp i = (ci, N)) (hv : ∀ σ, fvl σ (ρ i) (μ i) ci kf = cv σ v) (hav : okM μ → okP n ρ → aok n v) (kk : Go l D cA X own cc nL rt B Qa n ρ k z (pc + 3) L (v :: st) μ) : Go l D cA X own cc nL rt B Qa n ρ k z pc L (vr i :: st) μ := by
  intro p e R s m args below meth c Q A n0 σ0 σ H locs ls hC hR hn hσ hW hl hL hst
  obtain ⟨hx, hb, hml, hown, hts, hK, hA, hE, hB, hX⟩ := id hC
  obtain ⟨hc, hk, hin, hci, hC1, hlk⟩ := F
  have he := wl_o (cA := cA) (ρ := ρ) (μ := μ) (σ := σ) hi hs hci
  have K := kk p e R s m args below meth c Q A n0 σ0 σ H locs ls hC hR hn hσ hW hl hL (ok_cons (hav hW.2.2.2.1 hW.2.2.2.2) (ok_tl hst))
  have hv2 := (fvl_at (σ := σ) (ρ := ρ i) (f := μ i) (ci := ci) hk).trans (congrArg some (hv σ))
  rcases hlk with hlk | hlk
  · exact va_get (T := T) (N := N) hx hb hts hin hown hK hW.1 i he hc kf hk (hts _ hlk) (fun x h => by rw [hC1] at h; exact h) hv2 d K
  · exact va_getN (T := T) (N := N) hx hb hts hin hown hK hW.1 i he hc kf hk (va_Nw.use rfl (hE.1 _ hlk rfl)) (fun x h => by rw [hC1] at h; exact h) hv2 d K
theorem go_getI {index ci kf i N : Nat} (kz : Int) {C : String} {T : u_T} (d : decode cc pc = .ok (.getfield index, 3)) (F : FL own index ci kf C T N) (hi : i < n) (hs : shp i = (ci, N)) (hr : isRf ci kf = false) (hz : ((kf : Nat) : Int) = kz) (kk : Go l D cA X own cc nL rt B Qa n ρ k z (pc + 3) L (vi (μ i kz) :: st) μ) : Go l D cA X own cc nL rt B Qa n ρ k z pc L (vr i :: st) μ :=
  by subst hz; exact go_getv (v := vi (μ i (kf : Nat))) d F hi hs (fun σ => by unfold fvl; rw [hr]; rfl) (fun h _ => h i (kf : Nat)) kk
theorem go_getR {index ci kf i j N : Nat} {C : String} {T : u_T} (d : decode cc pc = .ok (.getfield index, 3)) (F : FL own index ci kf C T N) (hi : i < n) (hs : shp i = (ci, N)) (hr : isRf ci kf = true) (hj : ρ i (kf : Nat) = some j) (kk : Go l D cA X own cc nL rt B Qa n ρ k z (pc + 3) L (vr j :: st) μ) : Go l D cA X own cc nL rt B Qa n ρ k z pc L (vr i :: st) μ :=
  go_getv (v := vr j) d F hi hs (fun σ => by unfold fvl; rw [hr, hj]; rfl) (fun _ h => Or.inl (h i (kf : Nat) j hj)) kk
theorem go_putv {index ci kf i N : Nat} {C : String} {T : u_T} {x : Int} {ty : FieldType} (d : decode cc pc = .ok (.putfield index, 3)) (F : PL own index ci kf C T N ty) (hn1 : narrow ty (.int (Int32.ofInt x)) = .int (Int32.ofInt x)) (hf1 : fits ty (.int (Int32.ofInt x)) = true) (hi : i < n) (hs : shp i = (ci, N)) (hr : isRf ci kf = false) (kk : Go l D cA X own cc nL rt B Qa n ρ k z (pc + 3) L st (ud μ i (kf : Nat) x)) : Go l D cA X own cc nL rt B Qa n ρ k z pc L (vi x :: vr i :: st) μ := by
  intro p e R s m args below meth c Q A n0 σ0 σ H locs ls hC hR hn hσ hW hl hL hst
  obtain ⟨hx, hb, hml, hown, hts, hK, hA, hE, hB, hX⟩ := id hC
  obtain ⟨⟨hc, hk, hin, hci, hC1, hlk⟩, ⟨ty0, hty⟩, hnm, hfin, hd⟩ := F
  have he := wl_o (cA := cA) (ρ := ρ) (μ := μ) (σ := σ) hi hs hci
  have hlen : kf < ((List.range N).map (fvl σ (ρ i) (μ i) ci)).length := by simp; exact hk
  have hset : (wl cA n σ ρ μ).set i (σ i, .inr (ci, ((List.range N).map (fvl σ (ρ i) (μ i) ci)).set kf (.int (Int32.ofInt x)))) = wl cA n σ ρ (ud μ i (kf : Nat) x) := wl_set (by rw [fvl_set hr, hs, ent_o hci])
  have hxr : iR x := ok_hd hst
  have K := fun H1 locs1 hP1 hD1 hS1 => kk p e R s m args below meth c Q A n0 σ0 σ H1 locs1 ls hC hR hn hσ (hW.upd hset (okM_ud hW.2.2.2.1 hxr) hP1 hD1 hS1) hl hL (ok_tl (ok_tl hst))
  rcases hlk with hlk | hlk
  · exact va_put (T := T) (N := N) hx hb hts hin ty0 hty hnm hown hK hW.1 hW.2.1 hW.2.2.1 i he hc kf hk (hts _ hlk) (fun x h => by rw [hC1] at h; exact h) hfin hd hn1 hf1 hlen d K
  · exact va_putN (T := T) (N := N) hx hb hts hin ty0 hty hnm hown hK hW.1 hW.2.1 hW.2.2.1 i he hc kf hk (va_Nw.use rfl (hE.1 _ hlk rfl)) (fun x h => by rw [hC1] at h; exact h) hfin hd hn1 hf1 hlen d K
theorem go_putI {index ci kf i N : Nat} (kz : Int) {C : String} {T : u_T} {x : Int} (d : decode cc pc = .ok (.putfield index, 3)) (F : PL own index ci kf C T N .int) (hi : i < n) (hs : shp i = (ci, N)) (hr : isRf ci kf = false) (hz : ((kf : Nat) : Int) = kz) (kk : Go l D cA X own cc nL rt B Qa n ρ k z (pc + 3) L st (ud μ i kz x)) : Go l D cA X own cc nL rt B Qa n ρ k z pc L (vi x :: vr i :: st) μ :=
  by subst hz; exact go_putv d F rfl rfl hi hs hr kk
theorem nar_z {x : Int} (h : x = 0 ∨ x = 1) : narrow .boolean (.int (Int32.ofInt x)) = .int (Int32.ofInt x) ∧ fits .boolean (.int (Int32.ofInt x)) = true := by
  rcases h with rfl | rfl <;> exact ⟨by decide +kernel, by decide +kernel⟩
theorem tyI {x : Int} : tyOK (some .int) (some (vi x)) := ⟨_, rfl, rfl⟩
theorem tyZ {x : Int} (h : x = 0 ∨ x = 1) : tyOK (some .boolean) (some (vi x)) := ⟨_, rfl, (nar_z h).1⟩
theorem tyZt {P : Prop} {h : Decidable P} : tyOK (some .boolean) (some (vi (tv P h))) := tyZ tv_01
theorem go_putZ {index ci kf i N : Nat} (kz : Int) {C : String} {T : u_T} {x : Int} (d : decode cc pc = .ok (.putfield index, 3)) (F : PL own index ci kf C T N .boolean) (h01 : x = 0 ∨ x = 1) (hi : i < n) (hs : shp i = (ci, N)) (hr : isRf ci kf = false) (hz : ((kf : Nat) : Int) = kz) (kk : Go l D cA X own cc nL rt B Qa n ρ k z (pc + 3) L st (ud μ i kz x)) : Go l D cA X own cc nL rt B Qa n ρ k z pc L (vi x :: vr i :: st) μ :=
  by subst hz; exact go_putv d F (nar_z h01).1 (nar_z h01).2 hi hs hr kk
theorem at_nat {a : Int} (h0 : 0 ≤ a) (ha : iR a) : (((Int32.ofInt a).toNatClampNeg : Nat) : Int) = a := by rw [oi_nat ha]; omega
theorem go_iaload {i N : Nat} {a : Int} (d : decode cc pc = .ok (.iaload, 1)) (hi : i < n) (hs : shp i = (20, N)) (h0 : 0 ≤ a) (h1 : a < (N : Nat)) (kk : Go l D cA X own cc nL rt B Qa n ρ k z (pc + 1) L (vi (μ i a) :: st) μ) : Go l D cA X own cc nL rt B Qa n ρ k z pc L (vi a :: vr i :: st) μ := by
  intro p e R s m args below meth c Q A n0 σ0 σ H locs ls hC hR hn hσ hW hl hL hst
  obtain ⟨hx, hb, hml, hown, hts, hK, hA, hE, hB, hX⟩ := id hC
  have ha : iR a := ok_hd hst
  have K := kk p e R s m args below meth c Q A n0 σ0 σ H locs ls hC hR hn hσ hW hl hL (ok_cons (hW.2.2.2.1 _ _) (ok_tl (ok_tl hst)))
  refine va_iald hx hb hK hW.1 i 0 (wl_i hi hs) rfl (oi_in h0 h1 ha) d ?_
  rw [at_nat h0 ha]
  exact K
theorem go_zaload {i N : Nat} {a : Int} (d : decode cc pc = .ok (.baload, 1)) (hi : i < n) (hs : shp i = (21, N)) (h0 : 0 ≤ a) (h1 : a < (N : Nat)) (kk : Go l D cA X own cc nL rt B Qa n ρ k z (pc + 1) L (vi (μ i a) :: st) μ) : Go l D cA X own cc nL rt B Qa n ρ k z pc L (vi a :: vr i :: st) μ := by
  intro p e R s m args below meth c Q A n0 σ0 σ H locs ls hC hR hn hσ hW hl hL hst
  obtain ⟨hx, hb, hml, hown, hts, hK, hA, hE, hB, hX⟩ := id hC
  have ha : iR a := ok_hd hst
  have K := kk p e R s m args below meth c Q A n0 σ0 σ H locs ls hC hR hn hσ hW hl hL (ok_cons (hW.2.2.2.1 _ _) (ok_tl (ok_tl hst)))
  refine va_zald hx hb hK hW.1 i 1 (wl_z hi hs) rfl (oi_in h0 h1 ha) d ?_
  rw [at_nat h0 ha]
  exact K
theorem upd_of {f : Int → Int} {a x : Int} (h0 : 0 ≤ a) (ha : iR a) : upd (fun j => Int32.ofInt (f (j : Nat))) (Int32.ofInt a).toNatClampNeg (Int32.ofInt x) = fun j : Nat => Int32.ofInt (uf f a x (j : Nat)) := by
  funext j
  unfold upd uf
  rw [oi_nat ha]
  by_cases h : j = a.toNat
  · rw [if_pos h, if_pos (by omega)]
  · rw [if_neg h, if_neg (by omega)]
theorem go_iastore {i N : Nat} {a x : Int} (d : decode cc pc = .ok (.iastore, 1)) (hi : i < n) (hs : shp i = (20, N)) (h0 : 0 ≤ a) (h1 : a < (N : Nat)) (kk : Go l D cA X own cc nL rt B Qa n ρ k z (pc + 1) L st (ud μ i a x)) : Go l D cA X own cc nL rt B Qa n ρ k z pc L (vi x :: vi a :: vr i :: st) μ := by
  intro p e R s m args below meth c Q A n0 σ0 σ H locs ls hC hR hn hσ hW hl hL hst
  obtain ⟨hx, hb, hml, hown, hts, hK, hA, hE, hB, hX⟩ := id hC
  have ha : iR a := ok_hd (ok_tl hst)
  have hset : (wl cA n σ ρ μ).set i (σ i, .inl (cA 0, N, .inl (upd (fun j => Int32.ofInt (μ i (j : Nat))) (Int32.ofInt a).toNatClampNeg (Int32.ofInt x)))) = wl cA n σ ρ (ud μ i a x) := wl_set (by rw [upd_of h0 ha, hs, ent_i])
  exact va_iast hx hb hK hW.1 hW.2.1 hW.2.2.1 i 0 (wl_i hi hs) rfl (oi_in h0 h1 ha) d (fun H1 locs1 hP1 hD1 hS1 => kk p e R s m args below meth c Q A n0 σ0 σ H1 locs1 ls hC hR hn hσ (hW.upd hset (okM_ud hW.2.2.2.1 (ok_hd hst)) hP1 hD1 hS1) hl hL (ok_tl (ok_tl (ok_tl hst))))
theorem nar_z2 {x : Int} (h : x = 0 ∨ x = 1) : vp_nar .boolean (Int32.ofInt x) = Int32.ofInt x := by
  rcases h with rfl | rfl <;> decide +kernel
theorem go_zastore {i N : Nat} {a x : Int} (d : decode cc pc = .ok (.bastore, 1)) (h01 : x = 0 ∨ x = 1) (hi : i < n) (hs : shp i = (21, N)) (h0 : 0 ≤ a) (h1 : a < (N : Nat)) (kk : Go l D cA X own cc nL rt B Qa n ρ k z (pc + 1) L st (ud μ i a x)) : Go l D cA X own cc nL rt B Qa n ρ k z pc L (vi x :: vi a :: vr i :: st) μ := by
  intro p e R s m args below meth c Q A n0 σ0 σ H locs ls hC hR hn hσ hW hl hL hst
  obtain ⟨hx, hb, hml, hown, hts, hK, hA, hE, hB, hX⟩ := id hC
  have ha : iR a := ok_hd (ok_tl hst)
  have hset : (wl cA n σ ρ μ).set i (σ i, .inl (cA 1, N, .inl (upd (fun j => Int32.ofInt (μ i (j : Nat))) (Int32.ofInt a).toNatClampNeg (vp_nar .boolean (Int32.ofInt x))))) = wl cA n σ ρ (ud μ i a x) := wl_set (by rw [nar_z2 h01, upd_of h0 ha, hs, ent_z])
  exact va_zast hx hb hK hW.1 hW.2.1 hW.2.2.1 i 1 (wl_z hi hs) rfl (oi_in h0 h1 ha) d (fun H1 locs1 hP1 hD1 hS1 => kk p e R s m args below meth c Q A n0 σ0 σ H1 locs1 ls hC hR hn hσ (hW.upd hset (okM_ud hW.2.2.2.1 (ok_hd hst)) hP1 hD1 hS1) hl hL (ok_tl (ok_tl (ok_tl hst))))
theorem go_aaload {i N t j : Nat} {a : Int} (d : decode cc pc = .ok (.aaload, 1)) (hi : i < n) (hs : shp i = (t + 22, N)) (ht : t < 3) (h0 : 0 ≤ a) (h1 : a < (N : Nat)) (hj : ρ i a = some j) (kk : Go l D cA X own cc nL rt B Qa n ρ k z (pc + 1) L (vr j :: st) μ) : Go l D cA X own cc nL rt B Qa n ρ k z pc L (vi a :: vr i :: st) μ := by
  intro p e R s m args below meth c Q A n0 σ0 σ H locs ls hC hR hn hσ hW hl hL hst
  obtain ⟨hx, hb, hml, hown, hts, hK, hA, hE, hB, hX⟩ := id hC
  have ha : iR a := ok_hd hst
  have K := kk p e R s m args below meth c Q A n0 σ0 σ H locs ls hC hR hn hσ hW hl hL (ok_cons (Or.inl (hW.2.2.2.2 _ _ _ hj)) (ok_tl (ok_tl hst)))
  have he : (wl cA n σ ρ μ)[i]? = some (σ i, .inl (cA (t + 2), N, .inr (.inr (.inr (.inr (fun j => (ρ i (j : Nat)).map σ)))))) := by
    rw [wl_at hi, hs]
    unfold ent
    rw [if_neg (by omega), if_neg (by omega)]
    rfl
  have e0 : va_rf ((ρ i (((Int32.ofInt a).toNatClampNeg : Nat) : Int)).map σ) = cv σ (vr j) := by rw [at_nat h0 ha, hj]; rfl
  have hty : ∃ C, (tyA cA)[t + 2]? = some (cA (t + 2), .object C) := by
    rcases (by omega : t = 0 ∨ t = 1 ∨ t = 2) with rfl | rfl | rfl <;> exact ⟨_, rfl⟩
  obtain ⟨C, hty⟩ := hty
  refine va_aldq hx hb hK hW.1 i (t + 2) he hty (oi_in h0 h1 ha) d ?_
  rw [e0]
  exact K
/-! contracts -/
def Pre (D : va_G) (cA : Nat → ClassId) (n : Nat) (ρ : RefM) (μ : Mem) (σ : Nat → Nat) (sz : Nat) (U : State) : Prop :=
  U.heap.size = sz ∧ va_P D vwCl (wl cA n σ ρ μ) U.heap ∧ va_K D vwCl (tyA cA) U ∧ va_D (fun _ => True) (wl cA n σ ρ μ) ∧ Ev σ (va_A (wl cA n σ ρ μ) sz) U U.heap
def Qcc (D : va_G) (cA : Nat → ClassId) (n : Nat) (σ : Nat → Nat) (ρ : RefM) (μ : Mem) (sz : Nat) (Qa : QT) : Array Value → State → Outcome → State → Prop := fun _ st oc t =>
  (∃ (r : Option AV) (n' : Nat) (ρ' : RefM) (μ' : Mem) (σ' : Nat → Nat), oc = .returned (r.map (cv σ')) ∧ Qa r n' ρ' μ' ∧ n ≤ n' ∧ (∀ j, j < n ∨ 1000 ≤ j → σ' j = σ j) ∧ va_P D vwCl (wl cA n' σ' ρ' μ') t.heap ∧ va_D (va_A (wl cA n σ ρ μ) sz) (wl cA n' σ' ρ' μ') ∧ okM μ' ∧ okP n' ρ' ∧ (∀ v, r = some v → aok n' v)) ∧ va_F (va_A (wl cA n σ ρ μ) sz) st t
def Ct (l : Launch) (D : va_G) (cA : Nat → ClassId) (y : MethodName) (cc : ByteArray) (nL : Nat) (rt : Option FieldType) (B : Nat × Nat × Nat) (n : Nat) (ρ : RefM) (args : List AV) (μ : Mem) (Qa : QT) : Prop :=
  okM μ → okP n ρ → (∀ v ∈ args, aok n v) → ∀ (σ : Nat → Nat) (sz : Nat), Met l y (Cond.code y cc nL rt :: TB) (Rm B) (va_Pc (args.map (cv σ)) (Pre D cA n ρ μ σ sz)) (Qcc D cA n σ ρ μ sz Qa) B.2.1 B.2.2 (va_A (wl cA n σ ρ μ) sz)
theorem pre_blind {args : List AV} {σ : Nat → Nat} {sz : Nat} : FrameBlind (va_Pc (args.map (cv σ)) (Pre D cA n ρ μ σ sz)) := by
  intro a U g mk h
  obtain ⟨h0, h1, h2, h3, h4, h5⟩ := h
  exact ⟨h0, h1, h2, va_K.moved (u := U) (U := U.calling g mk a) (Vm.Alike.refl U.vm) h3, h4, h5.same rfl⟩
def la : Nat → List AV → List (Nat × AV)
  | _, [] => []
  | i, v :: t => (i, v) :: la (bif ct2 v then i + 2 else i + 1) t
theorem la_args {σ : Nat → Nat} (args : List AV) : ∀ i, (la i args).map (fun q => (q.1, cv σ q.2)) = lv_args i (args.map (cv σ)) := by
  induction args with
  | nil => intro i; rfl
  | cons v t ih =>
    intro i
    show (i, cv σ v) :: (la (bif ct2 v then i + 2 else i + 1) t).map (fun q => (q.1, cv σ q.2)) = (i, cv σ v) :: lv_args (if (cv σ v).category = 2 then i + 2 else i + 1) (t.map (cv σ))
    rw [ih]
    rcases v with x | x | _ | j <;> rfl
theorem la_mem {args : List AV} : ∀ i, ∀ q ∈ la i args, q.2 ∈ args := by
  induction args with
  | nil => intro i q h; cases h
  | cons v t ih =>
    intro i q h
    rcases List.mem_cons.mp h with rfl | h
    · exact List.mem_cons_self
    · exact List.mem_cons_of_mem _ (ih _ q h)
theorem Ct.of {y : MethodName} {args : List AV} (hpl : plainName y.cls = true) (hownn : y.cls = own) (hlen : ∀ σ, (lg_sl (args.map (cv σ))).length ≤ nL) (h : okM μ → okP n ρ → (∀ v ∈ args, aok n v) → Go l D cA none own cc nL rt B Qa n ρ 0 0 0 (la 0 args) [] μ) : Ct l D cA y cc nL rt B n ρ args μ Qa := by
  intro hM hPr hargs σ sz
  refine Met.ofW (cc := cc) (maxL := nL) (ret := rt) hpl rfl ?_
  intro p e s m args' below meth c s₁ Bd hml hv
  obtain ⟨rfl, hsz, hP, hK, hD0, hEv⟩ := hv
  subst hsz
  have hts := atoms_spec (ws := Cond.code y cc nL rt :: TB) Bd.pre
  have hown : s.vm.findClass own = some m.cls := by rw [← hownn]; exact findClass_of_methodNamed Bd.named
  have hlocks := Bd.notSynchronized
  have hr := Bd.returns
  have hx := Bd.exec
  have hb := Bd.bytes
  have hl := lv_entry (args.map (cv σ)) (n := nL) (hlen σ)
  rw [lg_entry_eq]
  generalize (lg_sl (args.map (cv σ)) ++ List.replicate (nL - (lg_sl (args.map (cv σ))).length) Slot.unset).toArray = ls at hl ⊢
  rw [← la_args] at hl
  refine h hM hPr hargs p e (Rm B) s m _ below meth c _ (va_A (wl cA n σ ρ μ) s.heap.size) n σ σ s.heap [] ls ⟨hx, hb, hml, hown, fun w hw => hts w (List.mem_cons_of_mem _ hw), hK, fun q hq => Or.inr hq, hEv, ⟨Nat.le_refl _, Nat.le_refl _, Nat.le_refl _, Nat.le_refl _⟩, fun _ _ h => by cases h⟩ ?_ (Nat.le_refl _) (fun _ _ => rfl) ⟨hP, hD0.self, va_S.rf, hM, hPr⟩ hl (fun q hq => hargs _ (la_mem 0 q hq)) (fun _ h => by cases h)
  intro r n' ρ' μ' σ' H' locs' k' z' pc' ls' hq hn hσ hW hty hok hk hz hd
  refine W.widen hk hz ?_
  have hQ : ∀ t : State, t.heap = H' → s.WarmedH t.vm → Qcc D cA n σ ρ μ s.heap.size Qa (args.map (cv σ)).toArray s (.returned (r.map (cv σ'))) t := fun t ht _ => ⟨⟨r, n', ρ', μ', σ', rfl, hq, hn, hσ, by rw [ht]; exact hW.1, hW.2.1, hW.2.2.2.1, hW.2.2.2.2, hok⟩, hW.2.2.1.F ht⟩
  rcases r with _ | x | x | x
  · exact W.vret hx hb (by rw [hr]; exact hty) hQ hW.2.2.1.2.2 hd
  · obtain ⟨ty, hty, hnr⟩ := hty
    exact W.zret (ty := ty) hx hb (by rw [hr]; exact hty) hnr hQ hW.2.2.1.2.2 hd
  · exact W.lret hx hb (by rw [hr]; exact hty) hQ hW.2.2.1.2.2 hd
  · exact absurd hty id
/-! calls -/
def MN (y : MethodName) (na : Nat) : Prop := y.cls ≠ "java/lang/invoke/MethodHandle" ∧ y.cls ≠ "java/lang/invoke/VarHandle" ∧ (parseMethodDescriptor y.desc).map (fun d => d.parameters.length) = some na
def ML (own : String) (index : Nat) (y : MethodName) : Prop := Cond.methodLink own index y ∈ TB ∨ Cond.methodLinkNest own index y "WhiteSlope" ∈ lw_tbl
def MC (y : MethodName) (cc : ByteArray) (nL : Nat) (rt : Option FieldType) (na : Nat) : Prop := Cond.code y cc nL rt ∈ TB ∧ Cond.initialized y.cls ∈ TB ∧ MN y na
theorem good_sub {y : MethodName} {cc : ByteArray} {nL : Nat} {rt : Option FieldType} (h : Cond.code y cc nL rt ∈ TB) : GoodIn TB (Cond.code y cc nL rt :: TB) := fun w hw => by
  rcases List.mem_cons.mp hw with rfl | hw
  · exact ⟨h, tb_good _ h⟩
  · exact ⟨hw, tb_good _ hw⟩
theorem w_call {p : Program} {e : Env} {R : Room} {s : State} {m : MethodId} {args : Array Value} {below : List Frame} {meth : Method} {c : Code} {H : Heap} {locs : List Loc} {cells slots mc ms : Nat} {Q : State → Prop} {A : Nat → Prop} {σ : Nat → Nat} {ls : Array Slot} {st0 rest : List Value} {Qb : QT} {a : Array Value}
    (hr : va_Run p l e R s m args below meth c H locs cells slots mc ms (F0 m pc ls st0) rest (Qcc D cA n σ ρ μ H.size Qb a) (va_A (wl cA n σ ρ μ) H.size)) (hS : va_S A s.heap H locs) (hA : ∀ q, s.heap.size ≤ q → A q) (hD : va_D A (wl cA n σ ρ μ))
    (kk : ∀ (r : Option AV) (n' : Nat) (ρ' : RefM) (μ' : Mem) (σ' : Nat → Nat) (H1 : Heap) (locs1 : List Loc), Qb r n' ρ' μ' → n ≤ n' → (∀ j, j < n ∨ 1000 ≤ j → σ' j = σ j) → Wd D cA A s.heap H1 locs1 σ' n' ρ' μ' → (∀ v, r = some v → aok n' v) → W p l e R s m args below meth c H1 locs1 (cells + mc) (slots + ms) Q (F0 m (pc + 3) ls ((r.map (cv σ')).toList ++ rest))) : W p l e R s m args below meth c H locs cells slots Q (F0 m pc ls st0) := by
  intro T hT X
  obtain ⟨v, st₀, t, T', L, h0, X', hL, e1, e2, ⟨⟨r, n', ρ', μ', σ', hv, hq, hn, hσ, hP, hD', hM, hPr, hok⟩, hz, hk⟩, st⟩ := hr T hT X
  cases hv
  rw [h0] at hz hk
  have hsub : ∀ q, va_A (wl cA n σ ρ μ) H.size q → A q := fun q h => by
    rcases h with ⟨j, e, h⟩ | h
    · exact hD.2 j _ h
    · exact hA q (Nat.le_trans hS.1 h)
  obtain ⟨t2, a1, b1⟩ := kk r n' ρ' μ' σ' T'.heap (locs ++ L) hq hn hσ ⟨by rw [e1]; exact hP, hD'.weaken (fun _ q _ h => hsub q.1 h), ⟨Nat.le_trans hS.1 (by rw [e1]; exact hz), fun q h1 h2 => by rw [e1, hk q (Nat.lt_of_lt_of_le h1 hS.1) (fun z => h2 (hsub q z))]; exact hS.2.1 q h1 h2, fun q hq => by
      rcases List.mem_append.mp hq with h | h
      · exact hS.2.2 q h
      · exact hsub _ (hL q h)⟩, hM, hPr⟩ hok T' rfl X'
  exact ⟨t2, st t2 a1, b1⟩
theorem pre_at {args : List AV} {σ : Nat → Nat} {A : Nat → Prop} {s : State} {H : Heap} {locs : List Loc} (hK : va_K D vwCl (tyA cA) s) (hA : ∀ q, s.heap.size ≤ q → A q) (hE : Ev σ A s s.heap) (hW : Wd D cA A s.heap H locs σ n ρ μ) : ∀ U : State, U.heap = H → s.WarmedH U.vm → va_Pc (args.map (cv σ)) (Pre D cA n ρ μ σ H.size) (args.map (cv σ)).toArray U := by
  intro U hU hWm
  have hsub : ∀ q, va_A (wl cA n σ ρ μ) H.size q → A q := fun q h => by
    rcases h with ⟨j, e, h⟩ | h
    · exact hW.2.1.2 j _ h
    · exact hA q (Nat.le_trans hW.2.2.1.1 h)
  exact ⟨rfl, by rw [hU], by rw [hU]; exact hW.1, va_K.moved hWm.alike hK, hW.2.1.weaken (fun _ _ _ _ => trivial), hE.warm hWm (fun a h1 h2 => by rw [hU]; exact hW.2.2.1.2.1 a h1 h2) hsub⟩
theorem map_same {σ σ' : Nat → Nat} (h : ∀ j, j < n ∨ 1000 ≤ j → σ' j = σ j) {st : List AV} (hst : ∀ v ∈ st, aok n v) : st.map (cv σ) = st.map (cv σ') := by
  apply List.map_congr_left
  intro v hv
  have := hst v hv
  rcases v with x | x | _ | j
  · rfl
  · rfl
  · rfl
  · show Value.ref (σ j) = Value.ref (σ' j)
    rw [h j this]
theorem mapL_same {σ σ' : Nat → Nat} (h : ∀ j, j < n ∨ 1000 ≤ j → σ' j = σ j) {L : List (Nat × AV)} (hL : ∀ q ∈ L, aok n q.2) : L.map (fun q => (q.1, cv σ q.2)) = L.map (fun q => (q.1, cv σ' q.2)) := by
  apply List.map_congr_left
  intro q hq
  have := hL q hq
  obtain ⟨i, v⟩ := q
  rcases v with x | x | _ | j
  · rfl
  · rfl
  · rfl
  · show (i, Value.ref (σ j)) = (i, Value.ref (σ' j))
    rw [h j this]
theorem aok_mono {n' : Nat} (h : n ≤ n') {v : AV} (hv : aok n v) : aok n' v := by
  rcases v with x | x | _ | j
  · exact hv
  · exact hv
  · trivial
  · rcases hv with hv | hv
    · exact Or.inl (Nat.lt_of_lt_of_le hv h)
    · exact Or.inr hv
theorem cat_sum {σ : Nat → Nat} (st : List AV) : ((st.map (cv σ)).map fun v => v.category).sum = (st.map cat).sum := by
  rw [List.map_map]
  congr 1
  apply List.map_congr_left
  intro v _
  exact cv_cat σ v
abbrev KT (l : Launch) (D : va_G) (cA : Nat → ClassId) (X : XT) (own : String) (cc : ByteArray) (nL : Nat) (rt : Option FieldType) (B B' : Nat × Nat × Nat) (Qa Qb : QT) (n k z pc : Nat) (L : List (Nat × AV)) (st : List AV) : Prop :=
  ∀ (r : Option AV) (n' : Nat) (ρ' : RefM) (μ' : Mem), Qb r n' ρ' μ' → n ≤ n' → Go l D cA X own cc nL rt B Qa n' ρ' (k + B'.2.1) (z + B'.2.2) (pc + 3) L (r.toList ++ st) μ'
theorem go_call {index nL' : Nat} {y : MethodName} {cc' : ByteArray} {rt' : Option FieldType} {B' : Nat × Nat × Nat} {Qb : QT} {as : List AV} {ins : Instr} {stk : List AV}
    (hrun : ∀ (p : Program) (e : Env) (R : Room) (s : State) (m : MethodId) (args : Array Value) (below : List Frame) (meth : Method) (c : Code) (A : Nat → Prop) (σ0 σ : Nat → Nat) (H : Heap) (locs : List Loc) (ls : Array Slot), Cx D cA X own cc nL B p R s m args meth c A σ0 → Ev σ A s s.heap → Wd D cA A s.heap H locs σ n ρ μ → ls.size = nL → (∀ v ∈ stk, aok n v) →
      Met l y (Cond.code y cc' nL' rt' :: TB) (Rm B') (va_Pc (as.map (cv σ)) (Pre D cA n ρ μ σ H.size)) (Qcc D cA n σ ρ μ H.size Qb) B'.2.1 B'.2.2 (va_A (wl cA n σ ρ μ) H.size) →
      va_Run p l e R s m args below meth c H locs k z B'.2.1 B'.2.2 (F0 m pc ls (stk.map (cv σ))) (st.map (cv σ)) (Qcc D cA n σ ρ μ H.size Qb (as.map (cv σ)).toArray) (va_A (wl cA n σ ρ μ) H.size))
    (hc : Ct l D cA y cc' nL' rt' B' n ρ as μ Qb) (hstk : stk = as.reverse ++ st) (kk : KT l D cA X own cc nL rt B B' Qa Qb n k z pc L st) : Go l D cA X own cc nL rt B Qa n ρ k z pc L stk μ := by
  intro p e R s m args below meth c Q A n0 σ0 σ H locs ls hC hR hn hσ hW hl hL hst
  obtain ⟨hx, hb, hml, hown, hts, hK, hA, hE, hB, hX⟩ := id hC
  have hE2 : Ev σ A s s.heap := hE.ext (fun j hj => hσ j (Or.inr hj))
  have has : ∀ v ∈ as, aok n v := fun v hv => hst v (by rw [hstk]; exact List.mem_append_left _ (List.mem_reverse.mpr hv))
  have hst2 : ∀ v ∈ st, aok n v := fun v hv => hst v (by rw [hstk]; exact List.mem_append_right _ hv)
  refine w_call (hrun p e R s m args below meth c A σ0 σ H locs ls hC hE2 hW hl.1 hst (hc hW.2.2.2.1 hW.2.2.2.2 has σ H.size)) hW.2.2.1 hA hW.2.1 ?_
  intro r n' ρ' μ' σ' H1 locs1 hq hnn hσ' hW1 hok
  have K := kk r n' ρ' μ' hq hnn p e R s m args below meth c Q A n0 σ0 σ' H1 locs1 ls hC hR (Nat.le_trans hn hnn) (fun j hj => (hσ' j (hj.elim (fun h => Or.inl (Nat.lt_of_lt_of_le h hn)) Or.inr)).trans (hσ j hj)) hW1 (by rw [← mapL_same hσ' hL]; exact hl) (fun q hq => aok_mono hnn (hL q hq)) (fun v hv => by
    rcases List.mem_append.mp hv with h | h
    · cases r with
      | none => cases h
      | some w => rw [List.mem_singleton.mp h]; exact hok w rfl
    · exact aok_mono hnn (hst2 v h))
  rw [map_same hσ' hst2]
  have e0 : (r.toList ++ st).map (cv σ') = (r.map (cv σ')).toList ++ st.map (cv σ') := by cases r <;> rfl
  rw [e0] at K
  exact K
theorem go_static {index nL' na : Nat} {y : MethodName} {cc' : ByteArray} {rt' : Option FieldType} {B' : Nat × Nat × Nat} {Qb : QT} {as stk : List AV} (d : decode cc pc = .ok (.invokestatic index, 3)) (hc : Ct l D cA y cc' nL' rt' B' n ρ as μ Qb) (hl : ML own index y) (hm : MC y cc' nL' rt' na) (hsv : Cond.static y ∈ TB) (hb : Nat.ble (B'.1 + 1) B.1 = true ∧ Nat.ble nL' 21 = true) (hf : k + B'.2.1 ≤ B.2.1 ∧ z + B'.2.2 ≤ B.2.2) (hst : stk = as.reverse ++ st) (hcat : Nat.ble (st.map cat).sum 8 = true) (hlen : as.length = na) (kk : KT l D cA X own cc nL rt B B' Qa Qb n k z pc L st) : Go l D cA X own cc nL rt B Qa n ρ k z pc L stk μ := by
  refine go_call (index := index) (ins := .invokestatic index) ?_ hc hst kk
  intro p e R s m args below meth c A σ0 σ H locs ls hC hE hW hls hok hM
  obtain ⟨hx, hbb, hml, hown, hts, hK, hA, -, hB, hX⟩ := id hC
  obtain ⟨hcode, hini, hd⟩ := hm
  have hb1 := Nat.le_of_ble_eq_true hb.1
  have hb2 := Nat.le_of_ble_eq_true hb.2
  have hroom : (Rm B').frames + 1 ≤ R.frames ∧ 8 + (nL' + 11) + (Rm B').locals ≤ R.locals := ⟨Nat.le_trans hb1 hB.1, by show 8 + (nL' + 11) + 40 * B'.1 ≤ _; have := hB.2.1; omega⟩
  have hff : k + B'.2.1 ≤ R.cells ∧ z + B'.2.2 ≤ R.slots := ⟨Nat.le_trans hf.1 hB.2.2.1, Nat.le_trans hf.2 hB.2.2.2⟩
  have hstk : stk.map (cv σ) = (as.map (cv σ)).reverse ++ st.map (cv σ) := by rw [hst, List.map_append, List.map_reverse]
  have hw8 : ((st.map (cv σ)).map fun v => v.category).sum ≤ 8 := by rw [cat_sum]; exact Nat.le_of_ble_eq_true hcat
  rcases hl with hlk | hlk
  · exact va_runS (As := as.map (cv σ)) (rest := st.map (cv σ)) ⟨hx, hbb, hml, hown, hts⟩ hM ⟨callB_of na hts (good_sub hcode) rfl rfl rfl (hts _ hini) (hts _ hlk) hd hroom, hts _ hsv⟩ ⟨pre_blind, pre_at hK hA hE hW⟩ rfl (by rw [List.length_map]; exact hlen) hls hstk (lv_room hw8) d hff
  · exact va_runSN (As := as.map (cv σ)) (rest := st.map (cv σ)) ⟨hx, hbb, hml, hown, hts⟩ hM ⟨va_cnB na hts (good_sub hcode) rfl rfl rfl (hE.1 _ hlk rfl) (hts _ hini) hd hroom, hts _ hsv, trivial⟩ ⟨pre_blind, pre_at hK hA hE hW⟩ rfl (by rw [List.length_map]; exact hlen) hls hstk (lv_room hw8) d hff
theorem go_virt {index nL' na i ci N : Nat} {T : u_T} {y : MethodName} {cc' : ByteArray} {rt' : Option FieldType} {B' : Nat × Nat × Nat} {Qb : QT} {as stk : List AV} (d : decode cc pc = .ok (.invokevirtual index, 3)) (hc : Ct l D cA y cc' nL' rt' B' n ρ (vr i :: as) μ Qb) (hl : ML own index y) (hm : MC y cc' nL' rt' na) (hsv : Cond.instanceMethod y ∈ TB ∧ Cond.selects y.cls y y ∈ TB) (hcl : vwCl[ci]? = some (y.cls, T, N)) (hi : i < n) (hs : shp i = (ci, N)) (hci : Nat.blt ci 20 = true) (hb : Nat.ble (B'.1 + 1) B.1 = true ∧ Nat.ble nL' 21 = true) (hf : k + B'.2.1 ≤ B.2.1 ∧ z + B'.2.2 ≤ B.2.2) (hst : stk = as.reverse ++ vr i :: st) (hcat : Nat.ble (st.map cat).sum 8 = true) (hlen : as.length = na) (kk : KT l D cA X own cc nL rt B B' Qa Qb n k z pc L st) : Go l D cA X own cc nL rt B Qa n ρ k z pc L stk μ := by
  refine go_call (index := index) (ins := .invokevirtual index) ?_ hc (by rw [hst, List.reverse_cons, List.append_assoc]; rfl) kk
  intro p e R s m args below meth c A σ0 σ H locs ls hC hE hW hls hok hM
  obtain ⟨hx, hbb, hml, hown, hts, hK, hA, -, hB, hX⟩ := id hC
  obtain ⟨hcode, hini, hd⟩ := hm
  have hb1 := Nat.le_of_ble_eq_true hb.1
  have hb2 := Nat.le_of_ble_eq_true hb.2
  have hroom : (Rm B').frames + 1 ≤ R.frames ∧ 8 + (nL' + 11) + (Rm B').locals ≤ R.locals := ⟨Nat.le_trans hb1 hB.1, by show 8 + (nL' + 11) + 40 * B'.1 ≤ _; have := hB.2.1; omega⟩
  have hff : k + B'.2.1 ≤ R.cells ∧ z + B'.2.2 ≤ R.slots := ⟨Nat.le_trans hf.1 hB.2.2.1, Nat.le_trans hf.2 hB.2.2.2⟩
  have hstk : stk.map (cv σ) = (as.map (cv σ)).reverse ++ Value.ref (σ i) :: st.map (cv σ) := by rw [hst, List.map_append, List.map_reverse]; rfl
  have hw8 : ((st.map (cv σ)).map fun v => v.category).sum ≤ 8 := by rw [cat_sum]; exact Nat.le_of_ble_eq_true hcat
  have hrecv := va_recv hK hW.1 hcl (wl_o (cA := cA) (ρ := ρ) (μ := μ) (σ := σ) hi hs (Nat.le_of_ble_eq_true hci))
  rcases hl with hlk | hlk
  · exact va_runV (As := as.map (cv σ)) (rest := st.map (cv σ)) ⟨hx, hbb, hml, hown, hts⟩ hM ⟨callB_of na hts (good_sub hcode) rfl rfl rfl (hts _ hini) (hts _ hlk) hd hroom, hts _ hsv.1, hts _ hsv.2⟩ ⟨pre_blind, hrecv, pre_at (args := vr i :: as) hK hA hE hW⟩ rfl (by rw [List.length_map]; exact hlen) hls hstk (lv_room hw8) d hff
  · exact va_runVN (As := as.map (cv σ)) (rest := st.map (cv σ)) ⟨hx, hbb, hml, hown, hts⟩ hM ⟨va_cnB na hts (good_sub hcode) rfl rfl rfl (hE.1 _ hlk rfl) (hts _ hini) hd hroom, hts _ hsv.1, hts _ hsv.2⟩ ⟨pre_blind, hrecv, pre_at (args := vr i :: as) hK hA hE hW⟩ rfl (by rw [List.length_map]; exact hlen) hls hstk (lv_room hw8) d hff
end Heap
