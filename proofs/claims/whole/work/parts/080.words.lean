/-! WORDS that stand in the code: rules, and members of the library on them -/
section Words
variable {l : Launch} {D : va_G} {cA : Nat → ClassId} {X : XT} {own : String} {cc : ByteArray} {nL : Nat} {rt : Option FieldType} {B : Nat × Nat × Nat} {Qa : QT} {n : Nat} {ρ : RefM} {k z pc : Nat} {L : List (Nat × AV)} {st : List AV} {μ : Mem}
def wB (i j : Nat) : Int := ((sByt.getD i []).getD j 0).toInt
theorem wB_r : ∀ i, i < 3 → ∀ j, j < 4 → 97 ≤ wB i j ∧ wB i j ≤ 122 := by decide +kernel
theorem wB_c : ∀ i, i < 3 → ∀ j, j < 4 → narrow .char (.int (Int32.ofInt (wB i j))) = .int (Int32.ofInt (wB i j)) ∧ andI (wB i j) 255 = wB i j ∧ Int32.ofInt (wB i j) = (sByt.getD i []).getD j 0 ∧ ((Int32.ofInt (wB i j)).toUInt32 % 65536).toInt32 = Int32.ofInt (wB i j) := by decide +kernel
theorem go_ldcW {i index : Nat} (d : decode cc pc = .ok (.ldc index, 2)) (hi : i < 3) (hix : (sIdx.getD i (0, "")).1 = index) (ho : own = "WhiteSlope$Reader") (kk : Go l D cA X own cc nL rt B Qa n ρ k z (pc + 2) L (vr (1001 + i) :: st) μ) : Go l D cA X own cc nL rt B Qa n ρ k z (pc) L (st) μ := by
  intro p e R s m args below meth c Q A n0 σ0 σ H locs ls hC hR hn hσ hW hl hL hst
  obtain ⟨hx, hb, hml, hown, hts, hK, hA, hE, hB, hX⟩ := id hC
  have hE2 : Ev σ A s s.heap := hE.ext (fun j hj => hσ j (Or.inr hj))
  subst ho
  have hr := hE2.2.2.2.2.1 i hi
  rw [hix] at hr
  exact va_ldcS hx hb hown hr d (kk p e R s m args below meth c Q A n0 σ0 σ H locs ls hC hR hn hσ hW hl hL (ok_cons (Or.inr (by omega)) hst))
theorem go_wval {i index : Nat} (d : decode cc pc = .ok (.getfield index, 3)) (hi : i < 3) (hlk : Cond.fieldLink own index "java/lang/String" "value" "[B" ∈ TB) (kk : Go l D cA X own cc nL rt B Qa n ρ k z (pc + 3) L (vr (1011 + i) :: st) μ) : Go l D cA X own cc nL rt B Qa n ρ k z (pc) L (vr (1001 + i) :: st) μ := by
  intro p e R s m args below meth c Q A n0 σ0 σ H locs ls hC hR hn hσ hW hl hL hst
  obtain ⟨hx, hb, hml, hown, hts, hK, hA, hE, hB, hX⟩ := id hC
  have hE2 : Ev σ A s s.heap := hE.ext (fun j hj => hσ j (Or.inr hj))
  exact vk_getf hx hb (hE2.2.2.2.2.2.1 i hi).2.2.1 hW.2.2.1 hown (hts _ hlk) (fun x h => h) d (kk p e R s m args below meth c Q A n0 σ0 σ H locs ls hC hR hn hσ hW hl hL (ok_cons (Or.inr (by omega)) (ok_tl hst)))
theorem go_wcod {i index : Nat} (d : decode cc pc = .ok (.getfield index, 3)) (hi : i < 3) (hlk : Cond.fieldLink own index "java/lang/String" "coder" "B" ∈ TB) (kk : Go l D cA X own cc nL rt B Qa n ρ k z (pc + 3) L (vi 0 :: st) μ) : Go l D cA X own cc nL rt B Qa n ρ k z (pc) L (vr (1001 + i) :: st) μ := by
  intro p e R s m args below meth c Q A n0 σ0 σ H locs ls hC hR hn hσ hW hl hL hst
  obtain ⟨hx, hb, hml, hown, hts, hK, hA, hE, hB, hX⟩ := id hC
  have hE2 : Ev σ A s s.heap := hE.ext (fun j hj => hσ j (Or.inr hj))
  exact vk_getf hx hb (hE2.2.2.2.2.2.1 i hi).2.1 hW.2.2.1 hown (hts _ hlk) (fun x h => h) d (kk p e R s m args below meth c Q A n0 σ0 σ H locs ls hC hR hn hσ hW hl hL (ok_cons (show iR 0 from ⟨by decide, by decide⟩) (ok_tl hst)))
theorem go_wlen {i : Nat} (d : decode cc pc = .ok (.arraylength, 1)) (hi : i < 3) (kk : Go l D cA X own cc nL rt B Qa n ρ k z (pc + 1) L (vi 4 :: st) μ) : Go l D cA X own cc nL rt B Qa n ρ k z (pc) L (vr (1011 + i) :: st) μ := by
  intro p e R s m args below meth c Q A n0 σ0 σ H locs ls hC hR hn hσ hW hl hL hst
  obtain ⟨hx, hb, hml, hown, hts, hK, hA, hE, hB, hX⟩ := id hC
  have hE2 : Ev σ A s s.heap := hE.ext (fun j hj => hσ j (Or.inr hj))
  have h4 : Int32.ofNat (sLen.getD i 0) = Int32.ofInt 4 := by rcases (by omega : i = 0 ∨ i = 1 ∨ i = 2) with rfl | rfl | rfl <;> decide
  exact va_tlen hx hb (hE2.2.2.2.2.2.1 i hi).2.2.2 hW.2.2.1 h4 d (kk p e R s m args below meth c Q A n0 σ0 σ H locs ls hC hR hn hσ hW hl hL (ok_cons (show iR 4 from ⟨by decide, by decide⟩) (ok_tl hst)))
theorem go_wbyte {i : Nat} {a : Int} (d : decode cc pc = .ok (.baload, 1)) (hi : i < 3) (h0 : 0 ≤ a) (h1 : a < 4) (kk : Go l D cA X own cc nL rt B Qa n ρ k z (pc + 1) L (vi (wB i a.toNat) :: st) μ) : Go l D cA X own cc nL rt B Qa n ρ k z (pc) L (vi a :: vr (1011 + i) :: st) μ := by
  intro p e R s m args below meth c Q A n0 σ0 σ H locs ls hC hR hn hσ hW hl hL hst
  obtain ⟨hx, hb, hml, hown, hts, hK, hA, hE, hB, hX⟩ := id hC
  have hE2 : Ev σ A s s.heap := hE.ext (fun j hj => hσ j (Or.inr hj))
  have ha : iR a := ok_hd hst
  have h4 : sLen.getD i 0 = 4 := by rcases (by omega : i = 0 ∨ i = 1 ∨ i = 2) with rfl | rfl | rfl <;> rfl
  have hr := wB_r i hi a.toNat (by omega)
  refine va_tb hx hb (hE2.2.2.2.2.2.1 i hi).2.2.2 hW.2.2.1 (oi_in h0 (by rw [h4]; omega) ha) (v := cv σ (vi (wB i a.toNat))) ?_ d (kk p e R s m args below meth c Q A n0 σ0 σ H locs ls hC hR hn hσ hW hl hL (ok_cons (show iR _ from ⟨by omega, by omega⟩) (ok_tl (ok_tl hst))))
  show Value.int ((sByt.getD i []).getD (Int32.ofInt a).toNatClampNeg 0) = Value.int _
  rw [oi_nat ha, (wB_c i hi a.toNat (by omega)).2.2.1]
theorem go_compact {index : Nat} (d : decode cc pc = .ok (.getstatic index, 3)) (hlk : Cond.fieldLink own index "java/lang/String" "COMPACT_STRINGS" "Z" ∈ TB) (kk : Go l D cA X own cc nL rt B Qa n ρ k z (pc + 3) L (vi 1 :: st) μ) : Go l D cA X own cc nL rt B Qa n ρ k z (pc) L (st) μ := by
  intro p e R s m args below meth c Q A n0 σ0 σ H locs ls hC hR hn hσ hW hl hL hst
  obtain ⟨hx, hb, hml, hown, hts, hK, hA, hE, hB, hX⟩ := id hC
  have hE2 : Ev σ A s s.heap := hE.ext (fun j hj => hσ j (Or.inr hj))
  exact va_gets hx hb hE2.2.2.2.1.1 hW.2.2.1 hown (hts _ hlk) (fun x h => h) d (kk p e R s m args below meth c Q A n0 σ0 σ H locs ls hC hR hn hσ hW hl hL (ok_cons (show iR 1 from ⟨by decide, by decide⟩) hst))
theorem go_i2cW {a : Int} (d : decode cc pc = .ok (.i2c, 1)) (h : ((Int32.ofInt a).toUInt32 % 65536).toInt32 = Int32.ofInt a) (kk : Go l D cA X own cc nL rt B Qa n ρ k z (pc + 1) L (vi a :: st) μ) : Go l D cA X own cc nL rt B Qa n ρ k z (pc) L (vi a :: st) μ := by
  intro p e R s m args below meth c Q A n0 σ0 σ H locs ls hC hR hn hσ hW hl hL hst
  obtain ⟨hx, hb, hml, hown, hts, hK, hA, hE, hB, hX⟩ := id hC
  have hE2 : Ev σ A s s.heap := hE.ext (fun j hj => hσ j (Or.inr hj))
  exact lv_i2c hx hb d h (kk p e R s m args below meth c Q A n0 σ0 σ H locs ls hC hR hn hσ hW hl hL hst)
/-- what nobody looks at: a reference whose number is free -/
def sw (σ : Nat → Nat) (t : Nat) : Nat → Nat := fun j => if j = 1019 then t else σ j
theorem sw_ne {σ : Nat → Nat} {t j : Nat} (h : j ≠ 1019) : sw σ t j = σ j := if_neg h
theorem sw_cv {σ : Nat → Nat} {t : Nat} {v : AV} (h : v ≠ vr 1019) : cv (sw σ t) v = cv σ v := by
  rcases v with x | x | _ | j
  · rfl
  · rfl
  · rfl
  · show Value.ref (sw σ t j) = Value.ref (σ j)
    rw [sw_ne (fun e => h (by rw [e]))]
theorem sw_wl {cA : Nat → ClassId} {n : Nat} {σ : Nat → Nat} {t : Nat} {ρ : RefM} {μ : Mem} (hn : n ≤ 1000) (hP : okP n ρ) : wl cA n (sw σ t) ρ μ = wl cA n σ ρ μ := by
  unfold wl
  apply List.map_congr_left
  intro i hi
  have hi2 := List.mem_range.mp hi
  rw [sw_ne (by omega)]
  have hm : ∀ q : Int, (ρ i q).map (sw σ t) = (ρ i q).map σ := fun q => by
    cases h : ρ i q with
    | none => rfl
    | some j =>
      have := hP i q j h
      show some (sw σ t j) = some (σ j)
      rw [sw_ne (by omega)]
  have hf : ∀ ci q, fvl (sw σ t) (ρ i) (μ i) ci q = fvl σ (ρ i) (μ i) ci q := fun ci q => by unfold fvl; rw [hm]
  unfold ent
  simp only [hm, hf]
  congr 3
  all_goals first | exact congrArg (fun g => ((shp i).fst, List.map g (List.range (shp i).snd))) (funext fun q => hf _ q) | rfl
theorem sw_Wd {A : Nat → Prop} {H0 H : Heap} {locs : List Loc} {σ : Nat → Nat} {t : Nat} (hn : n ≤ 1000) (h : Wd D cA A H0 H locs σ n ρ μ) : Wd D cA A H0 H locs (sw σ t) n ρ μ := by
  obtain ⟨h1, h2, h3, h4, h5⟩ := h
  exact ⟨by rw [sw_wl hn h5]; exact h1, by rw [sw_wl hn h5]; exact h2, h3, h4, h5⟩
theorem sw_Ev {σ : Nat → Nat} {t : Nat} {A : Nat → Prop} {s : State} {H : Heap} (h : Ev σ A s H) : Ev (sw σ t) A s H := by
  obtain ⟨h1, h0, h2, h4, h6, h7⟩ := h
  refine ⟨h1, h0, ?_, h4, fun i hi => ?_, ?_⟩
  · rw [sw_ne (by decide)]; exact h2
  · rw [sw_ne (by omega)]; exact h6 i hi
  · obtain ⟨g1, g2⟩ := h7
    refine ⟨fun i hi => ?_, fun i j hi hj e => ?_⟩
    · have := g1 i hi
      dsimp only at this ⊢
      rw [sw_ne (by omega), sw_ne (by omega)]; exact this
    · dsimp only at e
      rw [sw_ne (by omega), sw_ne (by omega)] at e
      exact g2 i j hi hj e
theorem go_fmt {index : Nat} {a b : Int} (d : decode cc pc = .ok (.getstatic index, 3)) (hlk : Cond.fieldLink own index "jdk/internal/util/Preconditions" "SIOOBE_FORMATTER" "Ljava/util/function/BiFunction;" ∈ TB) (hn1 : n ≤ 1000) (hrt : rt = none) (hL : L = [(0, vi a), (1, vi b)]) (hXn : X = none) (hQ : ∀ r n' ρ' μ', Qa r n' ρ' μ' → n' ≤ 1000)
    (kn : Go l D cA X own cc nL rt B Qa n ρ k z (pc + 3) [(0, vi a), (1, vi b)] [vn, vi b, vi a] μ) (kr : Go l D cA X own cc nL rt B Qa n ρ k z (pc + 3) [(0, vi a), (1, vi b)] [vr 1019, vi b, vi a] μ) : Go l D cA X own cc nL rt B Qa n ρ k z pc L [vi b, vi a] μ := by
  subst hL
  intro p e R s m args below meth c Q A n0 σ0 σ H locs ls hC hR hn hσ hW hl hL hst
  obtain ⟨hx, hb, hml, hown, hts, hK, hA, hE, hB, hX⟩ := id hC
  have hE2 : Ev σ A s s.heap := hE.ext (fun j hj => hσ j (Or.inr hj))
  rcases hE2.2.2.2.1.2 with hz | ⟨t, hz⟩
  · exact va_gets hx hb hz hW.2.2.1 hown (hts _ hlk) (fun x h => h) d (kn p e R s m args below meth c Q A n0 σ0 σ H locs ls hC hR hn hσ hW hl hL (ok_cons trivial hst))
  · have hC2 : Cx D cA X own cc nL B p R s m args meth c A (sw σ0 t) := ⟨hx, hb, hml, hown, hts, hK, hA, sw_Ev hE, hB, fun L xs h => by rw [hXn] at h; cases h⟩
    have hR2 : Rt l D cA cc rt B Qa p e R s m args below meth c Q A n0 (sw σ0 t) := by
      intro r n' ρ' μ' σ' H' locs' k' z' pc' ls' q1 q2 q3 q4 q5 q6 q7 q8 q9
      have hr : r = none := by
        rw [hrt] at q5
        rcases r with _ | x | x | x
        · rfl
        · obtain ⟨_, h, _⟩ := q5; cases h
        · cases q5
        · exact absurd q5 id
      subst hr
      have h2 := hR none n' ρ' μ' (sw σ' (σ0 1019)) H' locs' k' z' pc' ls' q1 q2 (fun j hj => by
        by_cases ej : j = 1019
        · rw [ej]; exact if_pos rfl
        · rw [sw_ne ej, q3 j hj, sw_ne ej]) (sw_Wd (hQ _ _ _ _ q1) q4) q5 q6 q7 q8 q9
      exact h2
    have hval : Value.ref t = cv (sw σ t) (vr 1019) := by show Value.ref t = Value.ref (sw σ t 1019); rw [show sw σ t 1019 = t from if_pos rfl]
    refine va_gets hx hb hz hW.2.2.1 hown (hts _ hlk) (fun x h => h) d ?_
    have K := kr p e R s m args below meth c Q A n0 (sw σ0 t) (sw σ t) H locs ls hC2 hR2 hn (fun j hj => by
      by_cases ej : j = 1019
      · rw [ej]; exact (if_pos rfl).trans (if_pos rfl).symm
      · rw [sw_ne ej, sw_ne ej]; exact hσ j hj) (sw_Wd hn1 hW) hl hL (ok_cons (Or.inr (by decide)) hst)
    rw [hval]
    exact K
end Words
theorem mcW_length : MC yJ0_length_8abf5 cJ0_length_8abf5 1 (some .int) 0 := ⟨tb_of (tm3 (List.mem_of_getElem? (i := 177) (by decide +kernel))) (by decide +kernel), tb_of (tm1 (List.mem_of_getElem? (i := 14) (by decide +kernel))) (by decide +kernel), by decide +kernel, by decide +kernel, by decide +kernel⟩
theorem mvW_length : Cond.instanceMethod yJ0_length_8abf5 ∈ TB ∧ Cond.selects yJ0_length_8abf5.cls yJ0_length_8abf5 yJ0_length_8abf5 ∈ TB := ⟨tb_of (tm3 (List.mem_of_getElem? (i := 175) (by decide +kernel))) (by decide +kernel), tb_of (tm3 (List.mem_of_getElem? (i := 176) (by decide +kernel))) (by decide +kernel)⟩
theorem mcW_charAt : MC yJ0_charAt_5068e cJ0_charAt_5068e 2 (some .char) 1 := ⟨tb_of (tm3 (List.mem_of_getElem? (i := 187) (by decide +kernel))) (by decide +kernel), tb_of (tm1 (List.mem_of_getElem? (i := 14) (by decide +kernel))) (by decide +kernel), by decide +kernel, by decide +kernel, by decide +kernel⟩
theorem mvW_charAt : Cond.instanceMethod yJ0_charAt_5068e ∈ TB ∧ Cond.selects yJ0_charAt_5068e.cls yJ0_charAt_5068e yJ0_charAt_5068e ∈ TB := ⟨tb_of (tm3 (List.mem_of_getElem? (i := 185) (by decide +kernel))) (by decide +kernel), tb_of (tm3 (List.mem_of_getElem? (i := 186) (by decide +kernel))) (by decide +kernel)⟩
theorem mcW_coder : MC yJ0_coder_7d493 cJ0_coder_7d493 1 (some .byte) 0 := ⟨tb_of (tm3 (List.mem_of_getElem? (i := 181) (by decide +kernel))) (by decide +kernel), tb_of (tm1 (List.mem_of_getElem? (i := 14) (by decide +kernel))) (by decide +kernel), by decide +kernel, by decide +kernel, by decide +kernel⟩
theorem mvW_coder : Cond.instanceMethod yJ0_coder_7d493 ∈ TB ∧ Cond.selects yJ0_coder_7d493.cls yJ0_coder_7d493 yJ0_coder_7d493 ∈ TB := ⟨tb_of (tm3 (List.mem_of_getElem? (i := 179) (by decide +kernel))) (by decide +kernel), tb_of (tm3 (List.mem_of_getElem? (i := 180) (by decide +kernel))) (by decide +kernel)⟩
theorem mcW_isLatin1 : MC yJ0_isLatin1_aae02 cJ0_isLatin1_aae02 1 (some .boolean) 0 := ⟨tb_of (tm3 (List.mem_of_getElem? (i := 191) (by decide +kernel))) (by decide +kernel), tb_of (tm1 (List.mem_of_getElem? (i := 14) (by decide +kernel))) (by decide +kernel), by decide +kernel, by decide +kernel, by decide +kernel⟩
theorem mvW_isLatin1 : Cond.instanceMethod yJ0_isLatin1_aae02 ∈ TB ∧ Cond.selects yJ0_isLatin1_aae02.cls yJ0_isLatin1_aae02 yJ0_isLatin1_aae02 ∈ TB := ⟨tb_of (tm3 (List.mem_of_getElem? (i := 189) (by decide +kernel))) (by decide +kernel), tb_of (tm3 (List.mem_of_getElem? (i := 190) (by decide +kernel))) (by decide +kernel)⟩
theorem mcW_ckS : MC yJ0_checkIndex_df160 cJ0_checkIndex_df160 2 none 2 := ⟨tb_of (tm3 (List.mem_of_getElem? (i := 197) (by decide +kernel))) (by decide +kernel), tb_of (tm1 (List.mem_of_getElem? (i := 14) (by decide +kernel))) (by decide +kernel), by decide +kernel, by decide +kernel, by decide +kernel⟩
theorem msW_ckS : Cond.static yJ0_checkIndex_df160 ∈ TB := tb_of (tm3 (List.mem_of_getElem? (i := 196) (by decide +kernel))) (by decide +kernel)
theorem mcW_charL : MC yJ1_charAt_3b067 cJ1_charAt_3b067 2 (some .char) 2 := ⟨tb_of (tm3 (List.mem_of_getElem? (i := 194) (by decide +kernel))) (by decide +kernel), tb_of (tm1 (List.mem_of_getElem? (i := 15) (by decide +kernel))) (by decide +kernel), by decide +kernel, by decide +kernel, by decide +kernel⟩
theorem msW_charL : Cond.static yJ1_charAt_3b067 ∈ TB := tb_of (tm3 (List.mem_of_getElem? (i := 193) (by decide +kernel))) (by decide +kernel)
theorem mcW_ckP : MC yJ3_checkIndex_8e157 cJ3_checkIndex_8e157 3 (some .int) 3 := ⟨tb_of (tm3 (List.mem_of_getElem? (i := 202) (by decide +kernel))) (by decide +kernel), tb_of (tm1 (List.mem_of_getElem? (i := 16) (by decide +kernel))) (by decide +kernel), by decide +kernel, by decide +kernel, by decide +kernel⟩
theorem msW_ckP : Cond.static yJ3_checkIndex_8e157 ∈ TB := tb_of (tm3 (List.mem_of_getElem? (i := 201) (by decide +kernel))) (by decide +kernel)
theorem mlW_coder : ML RJ0 335 yJ0_coder_7d493 := Or.inl (tb_of (tm3 (List.mem_of_getElem? (i := 178) (by decide +kernel))) (by decide +kernel))
theorem mlW_isLatin1 : ML RJ0 492 yJ0_isLatin1_aae02 := Or.inl (tb_of (tm3 (List.mem_of_getElem? (i := 188) (by decide +kernel))) (by decide +kernel))
theorem mlW_charL : ML RJ0 495 yJ1_charAt_3b067 := Or.inl (tb_of (tm3 (List.mem_of_getElem? (i := 192) (by decide +kernel))) (by decide +kernel))
theorem mlW_ckP : ML RJ0 1059 yJ3_checkIndex_8e157 := Or.inl (tb_of (tm3 (List.mem_of_getElem? (i := 200) (by decide +kernel))) (by decide +kernel))
theorem mlW_ckS : ML RJ1 9 yJ0_checkIndex_df160 := Or.inl (tb_of (tm3 (List.mem_of_getElem? (i := 195) (by decide +kernel))) (by decide +kernel))
theorem mlW_length : ML RX4 76 yJ0_length_8abf5 := Or.inl (tb_of (tm3 (List.mem_of_getElem? (i := 174) (by decide +kernel))) (by decide +kernel))
theorem mlW_charAt : ML RX4 80 yJ0_charAt_5068e := Or.inl (tb_of (tm3 (List.mem_of_getElem? (i := 184) (by decide +kernel))) (by decide +kernel))
theorem flW_val : Cond.fieldLink RJ0 9 "java/lang/String" "value" "[B" ∈ TB := tb_of (tm6 (List.mem_of_getElem? (i := 163) (by decide +kernel))) (by decide +kernel)
theorem flW_cod : Cond.fieldLink RJ0 15 "java/lang/String" "coder" "B" ∈ TB := tb_of (tm6 (List.mem_of_getElem? (i := 164) (by decide +kernel))) (by decide +kernel)
theorem flW_cmp : Cond.fieldLink RJ0 38 "java/lang/String" "COMPACT_STRINGS" "Z" ∈ TB := tb_of (tm3 (List.mem_of_getElem? (i := 182) (by decide +kernel))) (by decide +kernel)
theorem flW_fmt : Cond.fieldLink RJ0 1053 "jdk/internal/util/Preconditions" "SIOOBE_FORMATTER" "Ljava/util/function/BiFunction;" ∈ TB := tb_of (tm3 (List.mem_of_getElem? (i := 198) (by decide +kernel))) (by decide +kernel)
section Words2
variable {l : Launch} {D : va_G} {cA : Nat → ClassId} {X : XT} {own : String} {cc : ByteArray} {nL : Nat} {rt : Option FieldType} {B : Nat × Nat × Nat} {Qa : QT} {k z pc : Nat} {L : List (Nat × AV)} {st : List AV} {μ : Mem}
theorem go_wI {index nL' na d' i : Nat} {y : MethodName} {cc' : ByteArray} {rt' : Option FieldType} {p : Int → Mem → Prop} {as stk : List AV} (d : decode cc pc = .ok (.invokevirtual index, 3)) (hc : CtN l D cA y cc' nL' rt' d' (vr (1001 + i) :: as) μ (Pi p)) (hl : ML own index y) (hm : MC y cc' nL' rt' na) (hsv : Cond.instanceMethod y ∈ TB ∧ Cond.selects y.cls y y ∈ TB) (hcl : y.cls = "java/lang/String") (hi : i < 3) (hb : Nat.ble (d' + 1) B.1 = true ∧ Nat.ble nL' 21 = true) (hf : k ≤ B.2.1 ∧ z ≤ B.2.2) (hst : stk = as.reverse ++ vr (1001 + i) :: st) (hcat : Nat.ble (st.map cat).sum 8 = true) (hlen : as.length = na) (kk : ∀ x μ', p x μ' → Go l D cA X own cc nL rt B Qa 113 ρ0 k z (pc + 3) L (vi x :: st) μ') : Go l D cA X own cc nL rt B Qa 113 ρ0 k z pc L stk μ := by
  refine go_call (index := index) (ins := .invokevirtual index) ?_ hc (by rw [hst, List.reverse_cons, List.append_assoc]; rfl) (fun r n' ρ' μ' hq _ => by obtain ⟨rfl, rfl, x, rfl, hp⟩ := hq; exact kk x μ' hp)
  intro p e R s m args below meth c A σ0 σ H locs ls hC hE hW hls hok hM
  obtain ⟨hx, hbb, hml, hown, hts, hK, hA, -, hB, hX⟩ := id hC
  obtain ⟨hcode, hini, hd⟩ := hm
  have hb1 := Nat.le_of_ble_eq_true hb.1
  have hb2 := Nat.le_of_ble_eq_true hb.2
  have hroom : (Rm (d', 0, 0)).frames + 1 ≤ R.frames ∧ 8 + (nL' + 11) + (Rm (d', 0, 0)).locals ≤ R.locals := ⟨Nat.le_trans hb1 hB.1, by show 8 + (nL' + 11) + 40 * d' ≤ _; have := hB.2.1; omega⟩
  have hff : k + 0 ≤ R.cells ∧ z + 0 ≤ R.slots := ⟨Nat.le_trans hf.1 hB.2.2.1, Nat.le_trans hf.2 hB.2.2.2⟩
  have hstk : stk.map (cv σ) = (as.map (cv σ)).reverse ++ Value.ref (σ (1001 + i)) :: st.map (cv σ) := by rw [hst, List.map_append, List.map_reverse]; rfl
  have hw8 : ((st.map (cv σ)).map fun v => v.category).sum ≤ 8 := by rw [cat_sum]; exact Nat.le_of_ble_eq_true hcat
  have hrecv := vk_recv hE.2.2.2.2.2 hi hW.2.2.1
  rw [← hcl] at hrecv
  rcases hl with hlk | hlk
  · exact va_runV (As := as.map (cv σ)) (rest := st.map (cv σ)) ⟨hx, hbb, hml, hown, hts⟩ hM ⟨callB_of na hts (good_sub hcode) rfl rfl rfl (hts _ hini) (hts _ hlk) hd hroom, hts _ hsv.1, hts _ hsv.2⟩ ⟨pre_blind, hrecv, pre_at (args := vr (1001 + i) :: as) hK hA hE hW⟩ rfl (by rw [List.length_map]; exact hlen) hls hstk (lv_room hw8) d hff
  · exact va_runVN (As := as.map (cv σ)) (rest := st.map (cv σ)) ⟨hx, hbb, hml, hown, hts⟩ hM ⟨va_cnB na hts (good_sub hcode) rfl rfl rfl (hE.1 _ hlk rfl) (hts _ hini) hd hroom, hts _ hsv.1, hts _ hsv.2⟩ ⟨pre_blind, hrecv, pre_at (args := vr (1001 + i) :: as) hK hA hE hW⟩ rfl (by rw [List.length_map]; exact hlen) hls hstk (lv_room hw8) d hff
theorem go_sV {index nL' na d' : Nat} {y : MethodName} {cc' : ByteArray} {rt' : Option FieldType} {p : Mem → Prop} {as stk : List AV} (d : decode cc pc = .ok (.invokestatic index, 3)) (hc : CtN l D cA y cc' nL' rt' d' as μ (Pv p)) (hl : ML own index y) (hm : MC y cc' nL' rt' na) (hsv : Cond.static y ∈ TB) (hb : Nat.ble (d' + 1) B.1 = true ∧ Nat.ble nL' 21 = true) (hf : k ≤ B.2.1 ∧ z ≤ B.2.2) (hst : stk = as.reverse ++ st) (hcat : Nat.ble (st.map cat).sum 8 = true) (hlen : as.length = na) (kk : ∀ μ', p μ' → Go l D cA X own cc nL rt B Qa 113 ρ0 k z (pc + 3) L st μ') : Go l D cA X own cc nL rt B Qa 113 ρ0 k z pc L stk μ :=
  go_static d hc hl hm hsv hb hf hst hcat hlen (fun r n' ρ' μ' hq _ => by obtain ⟨rfl, rfl, rfl, hp⟩ := hq; exact kk μ' hp)
end Words2
set_option maxRecDepth 100000 in
theorem cw_coder {l : Launch} {D : va_G} {cA : Nat → ClassId} {μ : Mem} (i : Nat) (hi : i < 3) : CtN l D cA yJ0_coder_7d493 cJ0_coder_7d493 1 (some .byte) 0 [vr (1001 + i)] μ (Pi (fun x μ' => x = 0 ∧ μ' = μ)) := by
  refine Ct.of (own := RJ0) (by decide +kernel) rfl (fun σ => Nat.le_of_ble_eq_true rfl) (fun hM hP ha => ?_)
  refine go_compact dJ0_coder_7d493_0 flW_cmp ?_
  refine go_if_eq (tgt := 13) dJ0_coder_7d493_3 rfl (fun h => absurd h (by decide)) (fun _ => ?_)
  refine go_aload_n dJ0_coder_7d493_6 rfl ?_
  refine go_wcod dJ0_coder_7d493_7 hi flW_cod ?_
  refine go_goto (tgt := 14) dJ0_coder_7d493_10 rfl ?_
  exact go_ri dJ0_coder_7d493_14 ⟨_, rfl, by decide +kernel⟩ ⟨Nat.le_refl _, Nat.le_refl _⟩ ⟨rfl, rfl⟩
set_option maxRecDepth 100000 in
theorem cw_isLatin1 {l : Launch} {D : va_G} {cA : Nat → ClassId} {μ : Mem} (i : Nat) (hi : i < 3) : CtN l D cA yJ0_isLatin1_aae02 cJ0_isLatin1_aae02 1 (some .boolean) 0 [vr (1001 + i)] μ (Pi (fun x μ' => x = 1 ∧ μ' = μ)) := by
  refine Ct.of (own := RJ0) (by decide +kernel) rfl (fun σ => Nat.le_of_ble_eq_true rfl) (fun hM hP ha => ?_)
  refine go_compact dJ0_isLatin1_aae02_0 flW_cmp ?_
  refine go_if_eq (tgt := 17) dJ0_isLatin1_aae02_3 rfl (fun h => absurd h (by decide)) (fun _ => ?_)
  refine go_aload_n dJ0_isLatin1_aae02_6 rfl ?_
  refine go_wcod dJ0_isLatin1_aae02_7 hi flW_cod ?_
  refine go_if_ne (tgt := 17) dJ0_isLatin1_aae02_10 rfl (fun h => absurd rfl h) (fun _ => ?_)
  refine go_iconst dJ0_isLatin1_aae02_13 rfl ?_
  refine go_goto (tgt := 18) dJ0_isLatin1_aae02_14 rfl ?_
  exact go_ri dJ0_isLatin1_aae02_18 (tyZ (Or.inr rfl)) ⟨Nat.le_refl _, Nat.le_refl _⟩ ⟨rfl, rfl⟩
set_option maxRecDepth 100000 in
theorem cw_length {l : Launch} {D : va_G} {cA : Nat → ClassId} {μ : Mem} (i : Nat) (hi : i < 3) : CtN l D cA yJ0_length_8abf5 cJ0_length_8abf5 1 (some .int) 1 [vr (1001 + i)] μ (Pi (fun x μ' => x = 4 ∧ μ' = μ)) := by
  refine Ct.of (own := RJ0) (by decide +kernel) rfl (fun σ => Nat.le_of_ble_eq_true rfl) (fun hM hP ha => ?_)
  refine go_aload_n dJ0_length_8abf5_0 rfl ?_
  refine go_wval dJ0_length_8abf5_1 hi flW_val ?_
  refine go_wlen dJ0_length_8abf5_4 hi ?_
  refine go_aload_n dJ0_length_8abf5_5 rfl ?_
  refine go_wI dJ0_length_8abf5_6 (cw_coder i hi) mlW_coder mcW_coder mvW_coder rfl hi ⟨rfl, rfl⟩ ⟨Nat.le_refl _, Nat.le_refl _⟩ rfl rfl rfl (fun x μ1 hc => ?_)
  obtain ⟨rfl, hm⟩ := hc
  rw [hm]
  refine go_ishr dJ0_length_8abf5_9 ?_
  exact go_ri dJ0_length_8abf5_10 tyI ⟨Nat.le_refl _, Nat.le_refl _⟩ ⟨by decide +kernel, rfl⟩
set_option maxRecDepth 100000 in
theorem cw_ckP {l : Launch} {D : va_G} {cA : Nat → ClassId} {μ : Mem} (a b : Int) (v : AV) (hv : ct2 v = false) (h0 : 0 ≤ a) (h1 : a < b) : CtN l D cA yJ3_checkIndex_8e157 cJ3_checkIndex_8e157 3 (some .int) 0 [vi a, vi b, v] μ (Pi (fun x μ' => x = a ∧ μ' = μ)) := by
  refine Ct.of (own := RJ3) (by decide +kernel) rfl (fun σ => by rcases v with x | x | _ | j <;> first | exact Nat.le_of_ble_eq_true rfl | cases hv) (fun hM hP ha => ?_)
  refine go_iload_n dJ3_checkIndex_8e157_0 rfl ?_
  refine go_if_lt (tgt := 9) dJ3_checkIndex_8e157_1 rfl (fun h => absurd h (by omega)) (fun _ => ?_)
  refine go_iload_n dJ3_checkIndex_8e157_4 rfl ?_
  refine go_iload_n dJ3_checkIndex_8e157_5 rfl ?_
  refine go_icmp_lt (tgt := 16) dJ3_checkIndex_8e157_6 rfl (fun _ => ?_) (fun h => absurd h1 h)
  refine go_iload_n dJ3_checkIndex_8e157_16 rfl ?_
  exact go_ri dJ3_checkIndex_8e157_17 tyI ⟨Nat.le_refl _, Nat.le_refl _⟩ ⟨rfl, rfl⟩
set_option maxRecDepth 100000 in
theorem cw_ckS {l : Launch} {D : va_G} {cA : Nat → ClassId} {μ : Mem} (a b : Int) (h0 : 0 ≤ a) (h1 : a < b) : CtN l D cA yJ0_checkIndex_df160 cJ0_checkIndex_df160 2 none 1 [vi a, vi b] μ (Pv (fun μ' => μ' = μ)) := by
  refine Ct.of (own := RJ0) (by decide +kernel) rfl (fun σ => Nat.le_of_ble_eq_true rfl) (fun hM hP ha => ?_)
  refine go_iload_n dJ0_checkIndex_df160_0 rfl ?_
  refine go_iload_n dJ0_checkIndex_df160_1 rfl ?_
  refine go_fmt (a := a) (b := b) dJ0_checkIndex_df160_2 flW_fmt (by decide) rfl rfl rfl (fun r n' ρ' μ' h => by rw [h.1]; decide) ?_ ?_
  ·
    refine go_sI dJ0_checkIndex_df160_5 (cw_ckP a b vn rfl h0 h1) mlW_ckP mcW_ckP msW_ckP ⟨rfl, rfl⟩ ⟨Nat.le_refl _, Nat.le_refl _⟩ rfl rfl rfl (fun x μ1 hc => ?_)
    obtain ⟨rfl, hm⟩ := hc
    rw [hm]
    refine go_pop dJ0_checkIndex_df160_8 rfl ?_
    exact go_rv dJ0_checkIndex_df160_9 rfl ⟨Nat.le_refl _, Nat.le_refl _⟩ rfl
  ·
    refine go_sI dJ0_checkIndex_df160_5 (cw_ckP a b (vr 1019) rfl h0 h1) mlW_ckP mcW_ckP msW_ckP ⟨rfl, rfl⟩ ⟨Nat.le_refl _, Nat.le_refl _⟩ rfl rfl rfl (fun x μ1 hc => ?_)
    obtain ⟨rfl, hm⟩ := hc
    rw [hm]
    refine go_pop dJ0_checkIndex_df160_8 rfl ?_
    exact go_rv dJ0_checkIndex_df160_9 rfl ⟨Nat.le_refl _, Nat.le_refl _⟩ rfl
set_option maxRecDepth 100000 in
theorem cw_charL {l : Launch} {D : va_G} {cA : Nat → ClassId} {μ : Mem} (i : Nat) (hi : i < 3) (a : Int) (h0 : 0 ≤ a) (h1 : a < 4) : CtN l D cA yJ1_charAt_3b067 cJ1_charAt_3b067 2 (some .char) 2 [vr (1011 + i), vi a] μ (Pi (fun x μ' => x = wB i a.toNat ∧ μ' = μ)) := by
  refine Ct.of (own := RJ1) (by decide +kernel) rfl (fun σ => Nat.le_of_ble_eq_true rfl) (fun hM hP ha => ?_)
  have hw := wB_c i hi a.toNat (by omega)
  refine go_iload_n dJ1_charAt_3b067_0 rfl ?_
  refine go_aload_n dJ1_charAt_3b067_1 rfl ?_
  refine go_wlen dJ1_charAt_3b067_2 hi ?_
  refine go_sV dJ1_charAt_3b067_3 (cw_ckS a 4 h0 h1) mlW_ckS mcW_ckS msW_ckS ⟨rfl, rfl⟩ ⟨Nat.le_refl _, Nat.le_refl _⟩ rfl rfl rfl (fun μ1 hc => ?_)
  rw [hc]
  refine go_aload_n dJ1_charAt_3b067_6 rfl ?_
  refine go_iload_n dJ1_charAt_3b067_7 rfl ?_
  refine go_wbyte dJ1_charAt_3b067_8 hi h0 h1 ?_
  refine go_sipush dJ1_charAt_3b067_9 rfl (by decide) ?_
  refine go_iand dJ1_charAt_3b067_12 ?_
  rw [hw.2.1]
  refine go_i2cW dJ1_charAt_3b067_13 hw.2.2.2 ?_
  exact go_ri dJ1_charAt_3b067_14 ⟨_, rfl, hw.1⟩ ⟨Nat.le_refl _, Nat.le_refl _⟩ ⟨rfl, rfl⟩
set_option maxRecDepth 100000 in
theorem cw_charAt {l : Launch} {D : va_G} {cA : Nat → ClassId} {μ : Mem} (i : Nat) (hi : i < 3) (a : Int) (h0 : 0 ≤ a) (h1 : a < 4) : CtN l D cA yJ0_charAt_5068e cJ0_charAt_5068e 2 (some .char) 3 [vr (1001 + i), vi a] μ (Pi (fun x μ' => x = wB i a.toNat ∧ μ' = μ)) := by
  refine Ct.of (own := RJ0) (by decide +kernel) rfl (fun σ => Nat.le_of_ble_eq_true rfl) (fun hM hP ha => ?_)
  have hw := wB_c i hi a.toNat (by omega)
  refine go_aload_n dJ0_charAt_5068e_0 rfl ?_
  refine go_wI dJ0_charAt_5068e_1 (cw_isLatin1 i hi) mlW_isLatin1 mcW_isLatin1 mvW_isLatin1 rfl hi ⟨rfl, rfl⟩ ⟨Nat.le_refl _, Nat.le_refl _⟩ rfl rfl rfl (fun x μ1 hc => ?_)
  obtain ⟨rfl, hm⟩ := hc
  rw [hm]
  refine go_if_eq (tgt := 16) dJ0_charAt_5068e_4 rfl (fun h => absurd h (by decide)) (fun _ => ?_)
  refine go_aload_n dJ0_charAt_5068e_7 rfl ?_
  refine go_wval dJ0_charAt_5068e_8 hi flW_val ?_
  refine go_iload_n dJ0_charAt_5068e_11 rfl ?_
  refine go_sI dJ0_charAt_5068e_12 (cw_charL i hi a h0 h1) mlW_charL mcW_charL msW_charL ⟨rfl, rfl⟩ ⟨Nat.le_refl _, Nat.le_refl _⟩ rfl rfl rfl (fun x μ2 hc2 => ?_)
  obtain ⟨rfl, hm2⟩ := hc2
  rw [hm2]
  exact go_ri dJ0_charAt_5068e_15 ⟨_, rfl, hw.1⟩ ⟨Nat.le_refl _, Nat.le_refl _⟩ ⟨rfl, rfl⟩
