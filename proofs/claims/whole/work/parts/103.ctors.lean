/-! CONSTRUCTORS -/
section Wrap
variable {l : Launch} {D : va_G} {cA : Nat → ClassId} {X : XT} {own : String} {cc : ByteArray} {nL : Nat} {rt : Option FieldType} {B : Nat × Nat × Nat} {Qa : QT} {n : Nat} {ρ : RefM} {k z pc : Nat} {L : List (Nat × AV)} {st : List AV} {μ : Mem}
theorem gi_nw {index ci N : Nat} {C : String} {T : u_T} (d : decode cc pc = .ok (.new index, 3)) (F : NW own index ci C T N) (hs : shp n = (ci, N)) (hn1 : n < 1000) (hk : k + 1 ≤ B.2.1 ∧ z + N ≤ B.2.2) (n1 k1 z1 : Nat) (e1 : n + 1 = n1) (e2 : k + 1 = k1) (e3 : z + N = z1) (kk : GoI l D cA X own cc nL rt B Qa n1 (nR ρ n) k1 z1 (pc + 3) L (vr n :: st) (nM μ n)) : GoI l D cA X own cc nL rt B Qa n ρ k z pc L (st) μ := by
  subst e1; subst e2; subst e3
  exact gi_new d F hs hn1 hk kk
theorem gi_nI {a : Int} (N : Nat) (d : decode cc pc = .ok (.newarray .int, 2)) (ha : a = (N : Nat)) (hN : N ≤ 4000) (hs : shp n = (20, N)) (hn1 : n < 1000) (hk : k + 1 ≤ B.2.1 ∧ z + N ≤ B.2.2) (n1 k1 z1 : Nat) (e1 : n + 1 = n1) (e2 : k + 1 = k1) (e3 : z + N = z1) (kk : GoI l D cA X own cc nL rt B Qa n1 (nR ρ n) k1 z1 (pc + 2) L (vr n :: st) (nM μ n)) : GoI l D cA X own cc nL rt B Qa n ρ k z pc L (vi a :: st) μ := by
  subst e1; subst e2; subst e3
  exact gi_newI d aw_int ha hN hs hn1 hk kk
theorem gi_nZ {a : Int} (N : Nat) (d : decode cc pc = .ok (.newarray .boolean, 2)) (ha : a = (N : Nat)) (hN : N ≤ 4000) (hs : shp n = (21, N)) (hn1 : n < 1000) (hk : k + 1 ≤ B.2.1 ∧ z + N ≤ B.2.2) (n1 k1 z1 : Nat) (e1 : n + 1 = n1) (e2 : k + 1 = k1) (e3 : z + N = z1) (kk : GoI l D cA X own cc nL rt B Qa n1 (nR ρ n) k1 z1 (pc + 2) L (vr n :: st) (nM μ n)) : GoI l D cA X own cc nL rt B Qa n ρ k z pc L (vi a :: st) μ := by
  subst e1; subst e2; subst e3
  exact gi_newZ d aw_boolean ha hN hs hn1 hk kk
theorem gi_nQ {index : Nat} {a : Int} (N t : Nat) {C : String} (d : decode cc pc = .ok (.anewarray index, 3)) (hw : Cond.classLink own index C ∈ TB) (hC0 : (["WhiteSlope$Law", "WhiteSlope$Sheet", "WhiteSlope$Slot"])[t]? = some C) (ha : a = (N : Nat)) (hN : N ≤ 4000) (hs : shp n = (t + 22, N)) (hn1 : n < 1000) (hk : k + 1 ≤ B.2.1 ∧ z + N ≤ B.2.2) (n1 k1 z1 : Nat) (e1 : n + 1 = n1) (e2 : k + 1 = k1) (e3 : z + N = z1) (kk : GoI l D cA X own cc nL rt B Qa n1 (nR ρ n) k1 z1 (pc + 3) L (vr n :: st) (nM μ n)) : GoI l D cA X own cc nL rt B Qa n ρ k z pc L (vi a :: st) μ := by
  subst e1; subst e2; subst e3
  exact gi_newQ d hw hC0 ha hN hs hn1 hk kk
theorem gi_pR {index ci kf i j N : Nat} (kz : Int) {C : String} {T : u_T} {ty : FieldType} {fin : Bool} (d : decode cc pc = .ok (.putfield index, 3)) (F : PQ own index ci kf C T N ty fin) (hi : i < n) (hj : j < n) (hs : shp i = (ci, N)) (hr : isRf ci kf = true) (hz : ((kf : Nat) : Int) = kz) (kk : GoI l D cA X own cc nL rt B Qa n (pR ρ i kz j) k z (pc + 3) L st μ) : GoI l D cA X own cc nL rt B Qa n ρ k z pc L (vr j :: vr i :: st) μ := gi_putQ kz d F hi hj hs hr hz kk
theorem gi_aR {i N j ci M : Nat} (t : Nat) {a : Int} {C : String} {T : u_T} (d : decode cc pc = .ok (.aastore, 1)) (hC0 : (["WhiteSlope$Law", "WhiteSlope$Sheet", "WhiteSlope$Slot"])[t]? = some C) (hi : i < n) (hs : shp i = (t + 22, N)) (hj : j < n) (hsj : shp j = (ci, M)) (hcl : vwCl[ci]? = some (C, T, M)) (hci : ci < 20) (h0 : 0 ≤ a) (h1 : a < (N : Nat)) (a1 : Int) (ea : a = a1) (kk : GoI l D cA X own cc nL rt B Qa n (pR ρ i a1 j) k z (pc + 1) L st μ) : GoI l D cA X own cc nL rt B Qa n ρ k z pc L (vr j :: vi a :: vr i :: st) μ := by
  subst ea
  exact gi_aastore d hC0 hi hs hj hsj hcl hci h0 h1 kk
theorem gi_mk2 {index nL' na i n' : Nat} {ρ' : RefM} {μ' : Mem} {y : MethodName} {cc' : ByteArray} {B' : Nat × Nat × Nat} {as stk : List AV} (k1 z1 : Nat) (d : decode cc pc = .ok (.invokespecial index, 3)) (hc : Ct l D cA y cc' nL' none B' n ρ (vr i :: as) μ (QM n' ρ' μ')) (hl : ML own index y) (hm : MC y cc' nL' none na) (hsv : Cond.instanceMethod y ∈ TB) (hyn : y.name = "<init>") (hb : Nat.ble (B'.1 + 1) B.1 = true ∧ Nat.ble nL' 21 = true) (hf : k + B'.2.1 ≤ B.2.1 ∧ z + B'.2.2 ≤ B.2.2) (hst : stk = as.reverse ++ vr i :: st) (hcat : Nat.ble (st.map cat).sum 8 = true) (hlen : as.length = na) (e2 : k + B'.2.1 = k1) (e3 : z + B'.2.2 = z1) (kk : GoI l D cA X own cc nL rt B Qa n' ρ' k1 z1 (pc + 3) L st μ') : GoI l D cA X own cc nL rt B Qa n ρ k z pc L (stk) μ := by
  subst e2; subst e3
  exact gi_mk d hc hl hm hsv hyn hb hf hst hcat hlen kk
theorem gi_iincN {i : Nat} {w x : Int} (x1 : Int) (d : decode cc pc = .ok (.iinc i w, 3)) (h : lk L i = some (vi x)) (hi : Nat.blt i nL = true) (hr : iR (x + w)) (e : x + w = x1) (kk : GoI l D cA X own cc nL rt B Qa n ρ k z (pc + 3) (sto i (vi x1) L) st μ) : GoI l D cA X own cc nL rt B Qa n ρ k z pc L (st) μ := by
  subst e
  exact gi_iinc d h hi hr kk
end Wrap
def rLaw (ρ : RefM) (i : Nat) : RefM := (pR (nR ρ (i + 1)) i 3 (i + 1))
def mLaw (μ : Mem) (i : Nat) : Mem := (nM μ (i + 1))
set_option maxRecDepth 100000 in
set_option maxHeartbeats 4000000 in
theorem ci_Law {l : Launch} {D : va_G} {cA : Nat → ClassId} {ρ : RefM} {μ : Mem} (i : Nat) (h : shp i = (0, 4) ∧ shp (i + 1) = (20, 96) ∧ i + 1 < 1000) : Ct l D cA yX1_init cX1_init 1 none (1, 1, 96) (i + 1) ρ [vr i] μ (QM (i + 2) (rLaw ρ i) (mLaw μ i)) := by
  refine Ct.ofI (own := RX1) (by decide +kernel) rfl rfl (fun σ => Nat.le_of_ble_eq_true rfl) (fun hM hP ha => ?_)
  have h3 := h.2.2
  refine gi_aload_n dX1_init_0 rfl ?_
  refine gi_obj dX1_init_1 ol_X1_3 rfl ?_
  refine gi_aload_n dX1_init_4 rfl ?_
  refine gi_bipush dX1_init_5 rfl (by decide) ?_
  refine gi_nI 96 dX1_init_7 rfl (by decide) h.2.1 (by omega) ⟨by decide, by decide⟩ (i + 2) 1 96 rfl rfl rfl ?_
  refine gi_pR 3 dX1_init_9 pq_X1_9 (by omega) (by omega) h.1 rfl rfl ?_
  exact gi_mret dX1_init_12 rfl ⟨by decide, by decide⟩ ⟨rfl, rfl, rfl, rfl⟩
def rSheet (ρ : RefM) (i : Nat) : RefM := (pR (nR ρ (i + 1)) i 2 (i + 1))
def mSheet (μ : Mem) (i : Nat) : Mem := (nM (ud μ i 0 (-1)) (i + 1))
set_option maxRecDepth 100000 in
set_option maxHeartbeats 4000000 in
theorem ci_Sheet {l : Launch} {D : va_G} {cA : Nat → ClassId} {ρ : RefM} {μ : Mem} (i : Nat) (h : shp i = (4, 3) ∧ shp (i + 1) = (20, 24) ∧ i + 1 < 1000) : Ct l D cA yX5_init cX5_init 1 none (1, 1, 24) (i + 1) ρ [vr i] μ (QM (i + 2) (rSheet ρ i) (mSheet μ i)) := by
  refine Ct.ofI (own := RX5) (by decide +kernel) rfl rfl (fun σ => Nat.le_of_ble_eq_true rfl) (fun hM hP ha => ?_)
  have h3 := h.2.2
  refine gi_aload_n dX5_init_0 rfl ?_
  refine gi_obj dX5_init_1 ol_X5_3 rfl ?_
  refine gi_aload_n dX5_init_4 rfl ?_
  refine gi_iconst dX5_init_5 rfl ?_
  refine gi_putI 0 dX5_init_6 pl_X5_9 (by omega) h.1 rfl rfl ?_
  refine gi_aload_n dX5_init_9 rfl ?_
  refine gi_bipush dX5_init_10 rfl (by decide) ?_
  refine gi_nI 24 dX5_init_12 rfl (by decide) h.2.1 (by omega) ⟨by decide, by decide⟩ (i + 2) 1 24 rfl rfl rfl ?_
  refine gi_pR 2 dX5_init_14 pq_X5_15 (by omega) (by omega) h.1 rfl rfl ?_
  exact gi_mret dX5_init_17 rfl ⟨by decide, by decide⟩ ⟨rfl, rfl, rfl, rfl⟩
def rSlot (ρ : RefM) (i : Nat) : RefM := (pR (rSheet (nR ρ (i + 1)) (i + 1)) i 5 (i + 1))
def mSlot (μ : Mem) (i : Nat) : Mem := (mSheet (nM (ud μ i 0 (0)) (i + 1)) (i + 1))
set_option maxRecDepth 100000 in
set_option maxHeartbeats 4000000 in
theorem ci_Slot {l : Launch} {D : va_G} {cA : Nat → ClassId} {ρ : RefM} {μ : Mem} (i : Nat) (h : shp i = (5, 6) ∧ (shp (i + 1) = (4, 3) ∧ shp (i + 1 + 1) = (20, 24) ∧ i + 1 + 1 < 1000) ∧ True) : Ct l D cA yX6_init cX6_init 1 none (2, 2, 27) (i + 1) ρ [vr i] μ (QM (i + 3) (rSlot ρ i) (mSlot μ i)) := by
  refine Ct.ofI (own := RX6) (by decide +kernel) rfl rfl (fun σ => Nat.le_of_ble_eq_true rfl) (fun hM hP ha => ?_)
  have h3 := h.2.1.2.2
  refine gi_aload_n dX6_init_0 rfl ?_
  refine gi_obj dX6_init_1 ol_X6_3 rfl ?_
  refine gi_aload_n dX6_init_4 rfl ?_
  refine gi_iconst dX6_init_5 rfl ?_
  refine gi_putI 0 dX6_init_6 pl_X6_9 (by omega) h.1 rfl rfl ?_
  refine gi_aload_n dX6_init_9 rfl ?_
  refine gi_nw dX6_init_10 nw_X6_15 h.2.1.1 (by omega) ⟨by decide, by decide⟩ (i + 2) 1 3 rfl rfl rfl ?_
  refine gi_dup dX6_init_13 rfl ?_
  refine gi_mk2 2 27 dX6_init_14 (ci_Sheet (i + 1) h.2.1) ml_X6_17 mc_X5_init mi_X5_init rfl ⟨rfl, rfl⟩ ⟨by decide, by decide⟩ rfl rfl rfl rfl rfl ?_
  refine gi_pR 5 dX6_init_17 pq_X6_18 (by omega) (by omega) h.1 rfl rfl ?_
  exact gi_mret dX6_init_20 rfl ⟨by decide, by decide⟩ ⟨rfl, rfl, rfl, rfl⟩
def rMount (ρ : RefM) (i : Nat) : RefM := (pR (pR (nR (pR (nR (pR (nR (pR (nR (pR (nR (pR (nR ρ (i + 1)) i 1 (i + 1)) (i + 2)) i 2 (i + 2)) (i + 3)) i 3 (i + 3)) (i + 4)) i 4 (i + 4)) (i + 5)) i 5 (i + 5)) (i + 6)) i 6 (i + 6)) i 0 1)
def mMount (μ : Mem) (i : Nat) : Mem := (ud (ud (ud (ud (nM (nM (nM (nM (nM (nM μ (i + 1)) (i + 2)) (i + 3)) (i + 4)) (i + 5)) (i + 6)) i 8 (2)) i 9 (6)) i 10 (3)) i 11 (1))
set_option maxRecDepth 100000 in
set_option maxHeartbeats 4000000 in
theorem ci_Mount {l : Launch} {D : va_G} {cA : Nat → ClassId} {ρ : RefM} {μ : Mem} (i : Nat) (h : shp i = (2, 14) ∧ shp (i + 1) = (20, 30) ∧ shp (i + 2) = (20, 30) ∧ shp (i + 3) = (20, 30) ∧ shp (i + 4) = (20, 24) ∧ shp (i + 5) = (20, 30) ∧ shp (i + 6) = (20, 30) ∧ i + 6 < 1000 ∧ 1 < i) : Ct l D cA yX3_init cX3_init 2 none (1, 6, 174) (i + 1) ρ [vr i, vr 1] μ (QM (i + 7) (rMount ρ i) (mMount μ i)) := by
  refine Ct.ofI (own := RX3) (by decide +kernel) rfl rfl (fun σ => Nat.le_of_ble_eq_true rfl) (fun hM hP ha => ?_)
  have h3 := h.2.2.2.2.2.2.2
  refine gi_aload_n dX3_init_0 rfl ?_
  refine gi_obj dX3_init_1 ol_X3_3 rfl ?_
  refine gi_aload_n dX3_init_4 rfl ?_
  refine gi_bipush dX3_init_5 rfl (by decide) ?_
  refine gi_nI 30 dX3_init_7 rfl (by decide) h.2.1 (by omega) ⟨by decide, by decide⟩ (i + 2) 1 30 rfl rfl rfl ?_
  refine gi_pR 1 dX3_init_9 pq_X3_9 (by omega) (by omega) h.1 rfl rfl ?_
  refine gi_aload_n dX3_init_12 rfl ?_
  refine gi_bipush dX3_init_13 rfl (by decide) ?_
  refine gi_nI 30 dX3_init_15 rfl (by decide) h.2.2.1 (by omega) ⟨by decide, by decide⟩ (i + 3) 2 60 rfl rfl rfl ?_
  refine gi_pR 2 dX3_init_17 pq_X3_15 (by omega) (by omega) h.1 rfl rfl ?_
  refine gi_aload_n dX3_init_20 rfl ?_
  refine gi_bipush dX3_init_21 rfl (by decide) ?_
  refine gi_nI 30 dX3_init_23 rfl (by decide) h.2.2.2.1 (by omega) ⟨by decide, by decide⟩ (i + 4) 3 90 rfl rfl rfl ?_
  refine gi_pR 3 dX3_init_25 pq_X3_18 (by omega) (by omega) h.1 rfl rfl ?_
  refine gi_aload_n dX3_init_28 rfl ?_
  refine gi_bipush dX3_init_29 rfl (by decide) ?_
  refine gi_nI 24 dX3_init_31 rfl (by decide) h.2.2.2.2.1 (by omega) ⟨by decide, by decide⟩ (i + 5) 4 114 rfl rfl rfl ?_
  refine gi_pR 4 dX3_init_33 pq_X3_21 (by omega) (by omega) h.1 rfl rfl ?_
  refine gi_aload_n dX3_init_36 rfl ?_
  refine gi_bipush dX3_init_37 rfl (by decide) ?_
  refine gi_nI 30 dX3_init_39 rfl (by decide) h.2.2.2.2.2.1 (by omega) ⟨by decide, by decide⟩ (i + 6) 5 144 rfl rfl rfl ?_
  refine gi_pR 5 dX3_init_41 pq_X3_24 (by omega) (by omega) h.1 rfl rfl ?_
  refine gi_aload_n dX3_init_44 rfl ?_
  refine gi_bipush dX3_init_45 rfl (by decide) ?_
  refine gi_nI 30 dX3_init_47 rfl (by decide) h.2.2.2.2.2.2.1 (by omega) ⟨by decide, by decide⟩ (i + 7) 6 174 rfl rfl rfl ?_
  refine gi_pR 6 dX3_init_49 pq_X3_27 (by omega) (by omega) h.1 rfl rfl ?_
  refine gi_aload_n dX3_init_52 rfl ?_
  refine gi_iconst dX3_init_53 rfl ?_
  refine gi_putI 8 dX3_init_54 pl_X3_30 (by omega) h.1 rfl rfl ?_
  refine gi_aload_n dX3_init_57 rfl ?_
  refine gi_bipush dX3_init_58 rfl (by decide) ?_
  refine gi_putI 9 dX3_init_60 pl_X3_34 (by omega) h.1 rfl rfl ?_
  refine gi_aload_n dX3_init_63 rfl ?_
  refine gi_iconst dX3_init_64 rfl ?_
  refine gi_putI 10 dX3_init_65 pl_X3_37 (by omega) h.1 rfl rfl ?_
  refine gi_aload_n dX3_init_68 rfl ?_
  refine gi_iconst dX3_init_69 rfl ?_
  refine gi_putI 11 dX3_init_70 pl_X3_40 (by omega) h.1 rfl rfl ?_
  refine gi_aload_n dX3_init_73 rfl ?_
  refine gi_aload_n dX3_init_74 rfl ?_
  refine gi_pR 0 dX3_init_75 pq_X3_43 (by omega) (by omega) h.1 rfl rfl ?_
  exact gi_mret dX3_init_78 rfl ⟨by decide, by decide⟩ ⟨rfl, rfl, rfl, rfl⟩
def rTape (ρ : RefM) : RefM := (pR (nR ρ 57) 56 0 57)
def mTape (μ : Mem) : Mem := (nM μ 57)
set_option maxRecDepth 100000 in
set_option maxHeartbeats 4000000 in
theorem ci_Tape {l : Launch} {D : va_G} {cA : Nat → ClassId} {ρ : RefM} {μ : Mem}  : Ct l D cA yX7_init cX7_init 1 none (1, 1, 96) 57 ρ [vr 56] μ (QM 58 (rTape ρ) (mTape μ)) := by
  refine Ct.ofI (own := RX7) (by decide +kernel) rfl rfl (fun σ => Nat.le_of_ble_eq_true rfl) (fun hM hP ha => ?_)
  refine gi_aload_n dX7_init_0 rfl ?_
  refine gi_obj dX7_init_1 ol_X7_3 rfl ?_
  refine gi_aload_n dX7_init_4 rfl ?_
  refine gi_bipush dX7_init_5 rfl (by decide) ?_
  refine gi_nI 96 dX7_init_7 rfl (by decide) rfl (by decide) ⟨by decide, by decide⟩ 58 1 96 rfl rfl rfl ?_
  refine gi_pR 0 dX7_init_9 pq_X7_9 (by decide) (by decide) rfl rfl rfl ?_
  exact gi_mret dX7_init_12 rfl ⟨by decide, by decide⟩ ⟨rfl, rfl, rfl, rfl⟩
def rWays (ρ : RefM) : RefM := (pR (nR (pR (nR ρ 54) 53 0 54) 55) 53 1 55)
def mWays (μ : Mem) : Mem := (nM (nM μ 54) 55)
set_option maxRecDepth 100000 in
set_option maxHeartbeats 4000000 in
theorem ci_Ways {l : Launch} {D : va_G} {cA : Nat → ClassId} {ρ : RefM} {μ : Mem}  : Ct l D cA yX8_init cX8_init 1 none (1, 2, 60) 54 ρ [vr 53] μ (QM 56 (rWays ρ) (mWays μ)) := by
  refine Ct.ofI (own := RX8) (by decide +kernel) rfl rfl (fun σ => Nat.le_of_ble_eq_true rfl) (fun hM hP ha => ?_)
  refine gi_aload_n dX8_init_0 rfl ?_
  refine gi_obj dX8_init_1 ol_X8_3 rfl ?_
  refine gi_aload_n dX8_init_4 rfl ?_
  refine gi_bipush dX8_init_5 rfl (by decide) ?_
  refine gi_nI 30 dX8_init_7 rfl (by decide) rfl (by decide) ⟨by decide, by decide⟩ 55 1 30 rfl rfl rfl ?_
  refine gi_pR 0 dX8_init_9 pq_X8_9 (by decide) (by decide) rfl rfl rfl ?_
  refine gi_aload_n dX8_init_12 rfl ?_
  refine gi_bipush dX8_init_13 rfl (by decide) ?_
  refine gi_nI 30 dX8_init_15 rfl (by decide) rfl (by decide) ⟨by decide, by decide⟩ 56 2 60 rfl rfl rfl ?_
  refine gi_pR 1 dX8_init_17 pq_X8_15 (by decide) (by decide) rfl rfl rfl ?_
  exact gi_mret dX8_init_20 rfl ⟨by decide, by decide⟩ ⟨rfl, rfl, rfl, rfl⟩
def rReader (ρ : RefM) : RefM := (pR (pR (rLaw (nR ρ 59) 59) 58 1 59) 58 0 56)
def mReader (μ : Mem) : Mem := (mLaw (nM μ 59) 59)
set_option maxRecDepth 100000 in
set_option maxHeartbeats 4000000 in
theorem ci_Reader {l : Launch} {D : va_G} {cA : Nat → ClassId} {ρ : RefM} {μ : Mem}  : Ct l D cA yX4_init cX4_init 2 none (2, 2, 100) 59 ρ [vr 58, vr 56] μ (QM 61 (rReader ρ) (mReader μ)) := by
  refine Ct.ofI (own := RX4) (by decide +kernel) rfl rfl (fun σ => Nat.le_of_ble_eq_true rfl) (fun hM hP ha => ?_)
  refine gi_aload_n dX4_init_0 rfl ?_
  refine gi_obj dX4_init_1 ol_X4_3 rfl ?_
  refine gi_aload_n dX4_init_4 rfl ?_
  refine gi_nw dX4_init_5 nw_X4_9 rfl (by decide) ⟨by decide, by decide⟩ 60 1 4 rfl rfl rfl ?_
  refine gi_dup dX4_init_8 rfl ?_
  refine gi_mk2 2 100 dX4_init_9 (ci_Law 59 (by decide)) ml_X4_11 mc_X1_init mi_X1_init rfl ⟨rfl, rfl⟩ ⟨by decide, by decide⟩ rfl rfl rfl rfl rfl ?_
  refine gi_pR 1 dX4_init_12 pq_X4_12 (by decide) (by decide) rfl rfl rfl ?_
  refine gi_aload_n dX4_init_15 rfl ?_
  refine gi_aload_n dX4_init_16 rfl ?_
  refine gi_pR 0 dX4_init_17 pq_X4_18 (by decide) (by decide) rfl rfl rfl ?_
  exact gi_mret dX4_init_20 rfl ⟨by decide, by decide⟩ ⟨rfl, rfl, rfl, rfl⟩
def rLaws (ρ : RefM) : RefM := (pR (rLaw (nR (pR (rLaw (nR (pR (rLaw (nR (pR (rLaw (nR (pR (rLaw (nR (pR (rLaw (nR (pR (rLaw (nR (pR (rLaw (nR (pR (rLaw (nR (pR (rLaw (nR (pR (rLaw (nR (pR (rLaw (nR (pR (rLaw (nR (pR (rLaw (nR (pR (nR (pR (nR ρ 2) 1 0 2) 3) 1 1 3) 4) 4) 2 0 4) 6) 6) 2 1 6) 8) 8) 2 2 8) 10) 10) 2 3 10) 12) 12) 2 4 12) 14) 14) 2 5 14) 16) 16) 2 6 16) 18) 18) 2 7 18) 20) 20) 2 8 20) 22) 22) 2 9 22) 24) 24) 2 10 24) 26) 26) 2 11 26) 28) 28) 2 12 28) 30) 30) 2 13 30)
def mLaws (μ : Mem) : Mem := (mLaw (nM (mLaw (nM (mLaw (nM (mLaw (nM (mLaw (nM (mLaw (nM (mLaw (nM (mLaw (nM (mLaw (nM (mLaw (nM (mLaw (nM (mLaw (nM (mLaw (nM (mLaw (nM (nM (nM μ 2) 3) 4) 4) 6) 6) 8) 8) 10) 10) 12) 12) 14) 14) 16) 16) 18) 18) 20) 20) 22) 22) 24) 24) 26) 26) 28) 28) 30) 30)
set_option maxRecDepth 100000 in
set_option maxHeartbeats 4000000 in
theorem ci_Laws {l : Launch} {D : va_G} {cA : Nat → ClassId} {ρ : RefM} {μ : Mem}  : Ct l D cA yX2_init cX2_init 2 none (2, 30, 1510) 2 ρ [vr 1] μ (QM 32 (rLaws ρ) (mLaws μ)) := by
  refine Ct.ofI (own := RX2) (by decide +kernel) rfl rfl (fun σ => Nat.le_of_ble_eq_true rfl) (fun hM hP ha => ?_)
  refine gi_aload_n dX2_init_0 rfl ?_
  refine gi_obj dX2_init_1 ol_X2_3 rfl ?_
  refine gi_aload_n dX2_init_4 rfl ?_
  refine gi_bipush dX2_init_5 rfl (by decide) ?_
  refine gi_nQ 14 0 dX2_init_7 aq_X2_9 rfl rfl (by decide) rfl (by decide) ⟨by decide, by decide⟩ 3 1 14 rfl rfl rfl ?_
  refine gi_pR 0 dX2_init_10 pq_X2_11 (by decide) (by decide) rfl rfl rfl ?_
  refine gi_aload_n dX2_init_13 rfl ?_
  refine gi_bipush dX2_init_14 rfl (by decide) ?_
  refine gi_nI 96 dX2_init_16 rfl (by decide) rfl (by decide) ⟨by decide, by decide⟩ 4 2 110 rfl rfl rfl ?_
  refine gi_pR 1 dX2_init_18 pq_X2_17 (by decide) (by decide) rfl rfl rfl ?_
  refine gi_iconst dX2_init_21 rfl ?_
  refine gi_istore_n dX2_init_22 rfl ?_
  refine gi_iload_n dX2_init_23 rfl ?_
  refine gi_bipush dX2_init_24 rfl (by decide) ?_
  refine gi_icmp_ge (tgt := 48) dX2_init_26 rfl (fun h => absurd h (by decide)) (fun _ => ?_)
  refine gi_aload_n dX2_init_29 rfl ?_
  refine gi_getR (j := 2) dX2_init_30 fl_X2_11 (by decide) rfl rfl rfl ?_
  refine gi_iload_n dX2_init_33 rfl ?_
  refine gi_nw dX2_init_34 nw_X2_9 rfl (by decide) ⟨by decide, by decide⟩ 5 3 114 rfl rfl rfl ?_
  refine gi_dup dX2_init_37 rfl ?_
  refine gi_mk2 4 210 dX2_init_38 (ci_Law 4 (by decide)) ml_X2_21 mc_X1_init mi_X1_init rfl ⟨rfl, rfl⟩ ⟨by decide, by decide⟩ rfl rfl rfl rfl rfl ?_
  refine gi_aR 0 dX2_init_41 rfl (by decide) rfl (by decide) rfl rfl (by decide) (by decide) (by decide) 0 rfl ?_
  refine gi_iincN 1 dX2_init_42 rfl rfl ⟨by decide, by decide⟩ rfl ?_
  refine gi_goto (tgt := 23) dX2_init_45 rfl ?_
  refine gi_iload_n dX2_init_23 rfl ?_
  refine gi_bipush dX2_init_24 rfl (by decide) ?_
  refine gi_icmp_ge (tgt := 48) dX2_init_26 rfl (fun h => absurd h (by decide)) (fun _ => ?_)
  refine gi_aload_n dX2_init_29 rfl ?_
  refine gi_getR (j := 2) dX2_init_30 fl_X2_11 (by decide) rfl rfl rfl ?_
  refine gi_iload_n dX2_init_33 rfl ?_
  refine gi_nw dX2_init_34 nw_X2_9 rfl (by decide) ⟨by decide, by decide⟩ 7 5 214 rfl rfl rfl ?_
  refine gi_dup dX2_init_37 rfl ?_
  refine gi_mk2 6 310 dX2_init_38 (ci_Law 6 (by decide)) ml_X2_21 mc_X1_init mi_X1_init rfl ⟨rfl, rfl⟩ ⟨by decide, by decide⟩ rfl rfl rfl rfl rfl ?_
  refine gi_aR 0 dX2_init_41 rfl (by decide) rfl (by decide) rfl rfl (by decide) (by decide) (by decide) 1 rfl ?_
  refine gi_iincN 2 dX2_init_42 rfl rfl ⟨by decide, by decide⟩ rfl ?_
  refine gi_goto (tgt := 23) dX2_init_45 rfl ?_
  refine gi_iload_n dX2_init_23 rfl ?_
  refine gi_bipush dX2_init_24 rfl (by decide) ?_
  refine gi_icmp_ge (tgt := 48) dX2_init_26 rfl (fun h => absurd h (by decide)) (fun _ => ?_)
  refine gi_aload_n dX2_init_29 rfl ?_
  refine gi_getR (j := 2) dX2_init_30 fl_X2_11 (by decide) rfl rfl rfl ?_
  refine gi_iload_n dX2_init_33 rfl ?_
  refine gi_nw dX2_init_34 nw_X2_9 rfl (by decide) ⟨by decide, by decide⟩ 9 7 314 rfl rfl rfl ?_
  refine gi_dup dX2_init_37 rfl ?_
  refine gi_mk2 8 410 dX2_init_38 (ci_Law 8 (by decide)) ml_X2_21 mc_X1_init mi_X1_init rfl ⟨rfl, rfl⟩ ⟨by decide, by decide⟩ rfl rfl rfl rfl rfl ?_
  refine gi_aR 0 dX2_init_41 rfl (by decide) rfl (by decide) rfl rfl (by decide) (by decide) (by decide) 2 rfl ?_
  refine gi_iincN 3 dX2_init_42 rfl rfl ⟨by decide, by decide⟩ rfl ?_
  refine gi_goto (tgt := 23) dX2_init_45 rfl ?_
  refine gi_iload_n dX2_init_23 rfl ?_
  refine gi_bipush dX2_init_24 rfl (by decide) ?_
  refine gi_icmp_ge (tgt := 48) dX2_init_26 rfl (fun h => absurd h (by decide)) (fun _ => ?_)
  refine gi_aload_n dX2_init_29 rfl ?_
  refine gi_getR (j := 2) dX2_init_30 fl_X2_11 (by decide) rfl rfl rfl ?_
  refine gi_iload_n dX2_init_33 rfl ?_
  refine gi_nw dX2_init_34 nw_X2_9 rfl (by decide) ⟨by decide, by decide⟩ 11 9 414 rfl rfl rfl ?_
  refine gi_dup dX2_init_37 rfl ?_
  refine gi_mk2 10 510 dX2_init_38 (ci_Law 10 (by decide)) ml_X2_21 mc_X1_init mi_X1_init rfl ⟨rfl, rfl⟩ ⟨by decide, by decide⟩ rfl rfl rfl rfl rfl ?_
  refine gi_aR 0 dX2_init_41 rfl (by decide) rfl (by decide) rfl rfl (by decide) (by decide) (by decide) 3 rfl ?_
  refine gi_iincN 4 dX2_init_42 rfl rfl ⟨by decide, by decide⟩ rfl ?_
  refine gi_goto (tgt := 23) dX2_init_45 rfl ?_
  refine gi_iload_n dX2_init_23 rfl ?_
  refine gi_bipush dX2_init_24 rfl (by decide) ?_
  refine gi_icmp_ge (tgt := 48) dX2_init_26 rfl (fun h => absurd h (by decide)) (fun _ => ?_)
  refine gi_aload_n dX2_init_29 rfl ?_
  refine gi_getR (j := 2) dX2_init_30 fl_X2_11 (by decide) rfl rfl rfl ?_
  refine gi_iload_n dX2_init_33 rfl ?_
  refine gi_nw dX2_init_34 nw_X2_9 rfl (by decide) ⟨by decide, by decide⟩ 13 11 514 rfl rfl rfl ?_
  refine gi_dup dX2_init_37 rfl ?_
  refine gi_mk2 12 610 dX2_init_38 (ci_Law 12 (by decide)) ml_X2_21 mc_X1_init mi_X1_init rfl ⟨rfl, rfl⟩ ⟨by decide, by decide⟩ rfl rfl rfl rfl rfl ?_
  refine gi_aR 0 dX2_init_41 rfl (by decide) rfl (by decide) rfl rfl (by decide) (by decide) (by decide) 4 rfl ?_
  refine gi_iincN 5 dX2_init_42 rfl rfl ⟨by decide, by decide⟩ rfl ?_
  refine gi_goto (tgt := 23) dX2_init_45 rfl ?_
  refine gi_iload_n dX2_init_23 rfl ?_
  refine gi_bipush dX2_init_24 rfl (by decide) ?_
  refine gi_icmp_ge (tgt := 48) dX2_init_26 rfl (fun h => absurd h (by decide)) (fun _ => ?_)
  refine gi_aload_n dX2_init_29 rfl ?_
  refine gi_getR (j := 2) dX2_init_30 fl_X2_11 (by decide) rfl rfl rfl ?_
  refine gi_iload_n dX2_init_33 rfl ?_
  refine gi_nw dX2_init_34 nw_X2_9 rfl (by decide) ⟨by decide, by decide⟩ 15 13 614 rfl rfl rfl ?_
  refine gi_dup dX2_init_37 rfl ?_
  refine gi_mk2 14 710 dX2_init_38 (ci_Law 14 (by decide)) ml_X2_21 mc_X1_init mi_X1_init rfl ⟨rfl, rfl⟩ ⟨by decide, by decide⟩ rfl rfl rfl rfl rfl ?_
  refine gi_aR 0 dX2_init_41 rfl (by decide) rfl (by decide) rfl rfl (by decide) (by decide) (by decide) 5 rfl ?_
  refine gi_iincN 6 dX2_init_42 rfl rfl ⟨by decide, by decide⟩ rfl ?_
  refine gi_goto (tgt := 23) dX2_init_45 rfl ?_
  refine gi_iload_n dX2_init_23 rfl ?_
  refine gi_bipush dX2_init_24 rfl (by decide) ?_
  refine gi_icmp_ge (tgt := 48) dX2_init_26 rfl (fun h => absurd h (by decide)) (fun _ => ?_)
  refine gi_aload_n dX2_init_29 rfl ?_
  refine gi_getR (j := 2) dX2_init_30 fl_X2_11 (by decide) rfl rfl rfl ?_
  refine gi_iload_n dX2_init_33 rfl ?_
  refine gi_nw dX2_init_34 nw_X2_9 rfl (by decide) ⟨by decide, by decide⟩ 17 15 714 rfl rfl rfl ?_
  refine gi_dup dX2_init_37 rfl ?_
  refine gi_mk2 16 810 dX2_init_38 (ci_Law 16 (by decide)) ml_X2_21 mc_X1_init mi_X1_init rfl ⟨rfl, rfl⟩ ⟨by decide, by decide⟩ rfl rfl rfl rfl rfl ?_
  refine gi_aR 0 dX2_init_41 rfl (by decide) rfl (by decide) rfl rfl (by decide) (by decide) (by decide) 6 rfl ?_
  refine gi_iincN 7 dX2_init_42 rfl rfl ⟨by decide, by decide⟩ rfl ?_
  refine gi_goto (tgt := 23) dX2_init_45 rfl ?_
  refine gi_iload_n dX2_init_23 rfl ?_
  refine gi_bipush dX2_init_24 rfl (by decide) ?_
  refine gi_icmp_ge (tgt := 48) dX2_init_26 rfl (fun h => absurd h (by decide)) (fun _ => ?_)
  refine gi_aload_n dX2_init_29 rfl ?_
  refine gi_getR (j := 2) dX2_init_30 fl_X2_11 (by decide) rfl rfl rfl ?_
  refine gi_iload_n dX2_init_33 rfl ?_
  refine gi_nw dX2_init_34 nw_X2_9 rfl (by decide) ⟨by decide, by decide⟩ 19 17 814 rfl rfl rfl ?_
  refine gi_dup dX2_init_37 rfl ?_
  refine gi_mk2 18 910 dX2_init_38 (ci_Law 18 (by decide)) ml_X2_21 mc_X1_init mi_X1_init rfl ⟨rfl, rfl⟩ ⟨by decide, by decide⟩ rfl rfl rfl rfl rfl ?_
  refine gi_aR 0 dX2_init_41 rfl (by decide) rfl (by decide) rfl rfl (by decide) (by decide) (by decide) 7 rfl ?_
  refine gi_iincN 8 dX2_init_42 rfl rfl ⟨by decide, by decide⟩ rfl ?_
  refine gi_goto (tgt := 23) dX2_init_45 rfl ?_
  refine gi_iload_n dX2_init_23 rfl ?_
  refine gi_bipush dX2_init_24 rfl (by decide) ?_
  refine gi_icmp_ge (tgt := 48) dX2_init_26 rfl (fun h => absurd h (by decide)) (fun _ => ?_)
  refine gi_aload_n dX2_init_29 rfl ?_
  refine gi_getR (j := 2) dX2_init_30 fl_X2_11 (by decide) rfl rfl rfl ?_
  refine gi_iload_n dX2_init_33 rfl ?_
  refine gi_nw dX2_init_34 nw_X2_9 rfl (by decide) ⟨by decide, by decide⟩ 21 19 914 rfl rfl rfl ?_
  refine gi_dup dX2_init_37 rfl ?_
  refine gi_mk2 20 1010 dX2_init_38 (ci_Law 20 (by decide)) ml_X2_21 mc_X1_init mi_X1_init rfl ⟨rfl, rfl⟩ ⟨by decide, by decide⟩ rfl rfl rfl rfl rfl ?_
  refine gi_aR 0 dX2_init_41 rfl (by decide) rfl (by decide) rfl rfl (by decide) (by decide) (by decide) 8 rfl ?_
  refine gi_iincN 9 dX2_init_42 rfl rfl ⟨by decide, by decide⟩ rfl ?_
  refine gi_goto (tgt := 23) dX2_init_45 rfl ?_
  refine gi_iload_n dX2_init_23 rfl ?_
  refine gi_bipush dX2_init_24 rfl (by decide) ?_
  refine gi_icmp_ge (tgt := 48) dX2_init_26 rfl (fun h => absurd h (by decide)) (fun _ => ?_)
  refine gi_aload_n dX2_init_29 rfl ?_
  refine gi_getR (j := 2) dX2_init_30 fl_X2_11 (by decide) rfl rfl rfl ?_
  refine gi_iload_n dX2_init_33 rfl ?_
  refine gi_nw dX2_init_34 nw_X2_9 rfl (by decide) ⟨by decide, by decide⟩ 23 21 1014 rfl rfl rfl ?_
  refine gi_dup dX2_init_37 rfl ?_
  refine gi_mk2 22 1110 dX2_init_38 (ci_Law 22 (by decide)) ml_X2_21 mc_X1_init mi_X1_init rfl ⟨rfl, rfl⟩ ⟨by decide, by decide⟩ rfl rfl rfl rfl rfl ?_
  refine gi_aR 0 dX2_init_41 rfl (by decide) rfl (by decide) rfl rfl (by decide) (by decide) (by decide) 9 rfl ?_
  refine gi_iincN 10 dX2_init_42 rfl rfl ⟨by decide, by decide⟩ rfl ?_
  refine gi_goto (tgt := 23) dX2_init_45 rfl ?_
  refine gi_iload_n dX2_init_23 rfl ?_
  refine gi_bipush dX2_init_24 rfl (by decide) ?_
  refine gi_icmp_ge (tgt := 48) dX2_init_26 rfl (fun h => absurd h (by decide)) (fun _ => ?_)
  refine gi_aload_n dX2_init_29 rfl ?_
  refine gi_getR (j := 2) dX2_init_30 fl_X2_11 (by decide) rfl rfl rfl ?_
  refine gi_iload_n dX2_init_33 rfl ?_
  refine gi_nw dX2_init_34 nw_X2_9 rfl (by decide) ⟨by decide, by decide⟩ 25 23 1114 rfl rfl rfl ?_
  refine gi_dup dX2_init_37 rfl ?_
  refine gi_mk2 24 1210 dX2_init_38 (ci_Law 24 (by decide)) ml_X2_21 mc_X1_init mi_X1_init rfl ⟨rfl, rfl⟩ ⟨by decide, by decide⟩ rfl rfl rfl rfl rfl ?_
  refine gi_aR 0 dX2_init_41 rfl (by decide) rfl (by decide) rfl rfl (by decide) (by decide) (by decide) 10 rfl ?_
  refine gi_iincN 11 dX2_init_42 rfl rfl ⟨by decide, by decide⟩ rfl ?_
  refine gi_goto (tgt := 23) dX2_init_45 rfl ?_
  refine gi_iload_n dX2_init_23 rfl ?_
  refine gi_bipush dX2_init_24 rfl (by decide) ?_
  refine gi_icmp_ge (tgt := 48) dX2_init_26 rfl (fun h => absurd h (by decide)) (fun _ => ?_)
  refine gi_aload_n dX2_init_29 rfl ?_
  refine gi_getR (j := 2) dX2_init_30 fl_X2_11 (by decide) rfl rfl rfl ?_
  refine gi_iload_n dX2_init_33 rfl ?_
  refine gi_nw dX2_init_34 nw_X2_9 rfl (by decide) ⟨by decide, by decide⟩ 27 25 1214 rfl rfl rfl ?_
  refine gi_dup dX2_init_37 rfl ?_
  refine gi_mk2 26 1310 dX2_init_38 (ci_Law 26 (by decide)) ml_X2_21 mc_X1_init mi_X1_init rfl ⟨rfl, rfl⟩ ⟨by decide, by decide⟩ rfl rfl rfl rfl rfl ?_
  refine gi_aR 0 dX2_init_41 rfl (by decide) rfl (by decide) rfl rfl (by decide) (by decide) (by decide) 11 rfl ?_
  refine gi_iincN 12 dX2_init_42 rfl rfl ⟨by decide, by decide⟩ rfl ?_
  refine gi_goto (tgt := 23) dX2_init_45 rfl ?_
  refine gi_iload_n dX2_init_23 rfl ?_
  refine gi_bipush dX2_init_24 rfl (by decide) ?_
  refine gi_icmp_ge (tgt := 48) dX2_init_26 rfl (fun h => absurd h (by decide)) (fun _ => ?_)
  refine gi_aload_n dX2_init_29 rfl ?_
  refine gi_getR (j := 2) dX2_init_30 fl_X2_11 (by decide) rfl rfl rfl ?_
  refine gi_iload_n dX2_init_33 rfl ?_
  refine gi_nw dX2_init_34 nw_X2_9 rfl (by decide) ⟨by decide, by decide⟩ 29 27 1314 rfl rfl rfl ?_
  refine gi_dup dX2_init_37 rfl ?_
  refine gi_mk2 28 1410 dX2_init_38 (ci_Law 28 (by decide)) ml_X2_21 mc_X1_init mi_X1_init rfl ⟨rfl, rfl⟩ ⟨by decide, by decide⟩ rfl rfl rfl rfl rfl ?_
  refine gi_aR 0 dX2_init_41 rfl (by decide) rfl (by decide) rfl rfl (by decide) (by decide) (by decide) 12 rfl ?_
  refine gi_iincN 13 dX2_init_42 rfl rfl ⟨by decide, by decide⟩ rfl ?_
  refine gi_goto (tgt := 23) dX2_init_45 rfl ?_
  refine gi_iload_n dX2_init_23 rfl ?_
  refine gi_bipush dX2_init_24 rfl (by decide) ?_
  refine gi_icmp_ge (tgt := 48) dX2_init_26 rfl (fun h => absurd h (by decide)) (fun _ => ?_)
  refine gi_aload_n dX2_init_29 rfl ?_
  refine gi_getR (j := 2) dX2_init_30 fl_X2_11 (by decide) rfl rfl rfl ?_
  refine gi_iload_n dX2_init_33 rfl ?_
  refine gi_nw dX2_init_34 nw_X2_9 rfl (by decide) ⟨by decide, by decide⟩ 31 29 1414 rfl rfl rfl ?_
  refine gi_dup dX2_init_37 rfl ?_
  refine gi_mk2 30 1510 dX2_init_38 (ci_Law 30 (by decide)) ml_X2_21 mc_X1_init mi_X1_init rfl ⟨rfl, rfl⟩ ⟨by decide, by decide⟩ rfl rfl rfl rfl rfl ?_
  refine gi_aR 0 dX2_init_41 rfl (by decide) rfl (by decide) rfl rfl (by decide) (by decide) (by decide) 13 rfl ?_
  refine gi_iincN 14 dX2_init_42 rfl rfl ⟨by decide, by decide⟩ rfl ?_
  refine gi_goto (tgt := 23) dX2_init_45 rfl ?_
  refine gi_iload_n dX2_init_23 rfl ?_
  refine gi_bipush dX2_init_24 rfl (by decide) ?_
  refine gi_icmp_ge (tgt := 48) dX2_init_26 rfl (fun _ => ?_) (fun h => absurd (by decide) h)
  exact gi_mret dX2_init_48 rfl ⟨by decide, by decide⟩ ⟨rfl, rfl, rfl, rfl⟩
def rSlope (ρ : RefM) : RefM := (pR (nR (pR (rSlot (nR (pR (rSlot (nR (pR (rSlot (nR (pR (rSlot (nR (pR (rSlot (nR (pR (nR (pR (rSheet (nR (pR (rSheet (nR (pR (rSheet (nR (pR (rSheet (nR (pR (nR (pR (rReader (nR (pR (rTape (nR (pR (rWays (nR (pR (rMount (nR (pR (rMount (nR (pR (rMount (nR (pR (rLaws (nR ρ 1)) 0 0 1) 32) 32) 0 1 32) 39) 39) 0 2 39) 46) 46) 0 3 46) 53)) 0 4 53) 56)) 0 5 56) 58)) 0 6 58) 61) 0 7 61) 62) 62) 61 0 62) 64) 64) 61 1 64) 66) 66) 61 2 66) 68) 68) 61 3 68) 70) 0 8 70) 71) 71) 70 0 71) 74) 74) 70 1 74) 77) 77) 70 2 77) 80) 80) 70 3 80) 83) 83) 70 4 83) 86) 0 9 86)
def mSlope (μ : Mem) : Mem := (nM (mSlot (nM (mSlot (nM (mSlot (nM (mSlot (nM (mSlot (nM (nM (mSheet (nM (mSheet (nM (mSheet (nM (mSheet (nM (nM (mReader (nM (mTape (nM (mWays (nM (mMount (nM (mMount (nM (mMount (nM (mLaws (nM μ 1)) 32) 32) 39) 39) 46) 46) 53)) 56)) 58)) 61) 62) 62) 64) 64) 66) 66) 68) 68) 70) 71) 71) 74) 74) 77) 77) 80) 80) 83) 83) 86)
set_option maxRecDepth 100000 in
set_option maxHeartbeats 4000000 in
theorem ci_Slope {l : Launch} {D : va_G} {cA : Nat → ClassId} {ρ : RefM} {μ : Mem}  : Ct l D cA yX9_init cX9_init 2 none (3, 86, 2683) 1 ρ [vr 0] μ (QM 87 (rSlope ρ) (mSlope μ)) := by
  refine Ct.ofI (own := RX9) (by decide +kernel) rfl rfl (fun σ => Nat.le_of_ble_eq_true rfl) (fun hM hP ha => ?_)
  refine gi_aload_n dX9_init_0 rfl ?_
  refine gi_obj dX9_init_1 ol_X9_1 rfl ?_
  refine gi_aload_n dX9_init_4 rfl ?_
  refine gi_nw dX9_init_5 nw_X9_7 rfl (by decide) ⟨by decide, by decide⟩ 2 1 2 rfl rfl rfl ?_
  refine gi_dup dX9_init_8 rfl ?_
  refine gi_mk2 31 1512 dX9_init_9 (ci_Laws) ml_X9_9 mc_X2_init mi_X2_init rfl ⟨rfl, rfl⟩ ⟨by decide, by decide⟩ rfl rfl rfl rfl rfl ?_
  refine gi_pR 0 dX9_init_12 pq_X9_10 (by decide) (by decide) rfl rfl rfl ?_
  refine gi_aload_n dX9_init_15 rfl ?_
  refine gi_nw dX9_init_16 nw_X9_16 rfl (by decide) ⟨by decide, by decide⟩ 33 32 1526 rfl rfl rfl ?_
  refine gi_dup dX9_init_19 rfl ?_
  refine gi_aload_n dX9_init_20 rfl ?_
  refine gi_getR (j := 1) dX9_init_21 fl_X9_10 (by decide) rfl rfl rfl ?_
  refine gi_mk2 38 1700 dX9_init_24 (ci_Mount 32 (by decide)) ml_X9_18 mc_X3_init mi_X3_init rfl ⟨rfl, rfl⟩ ⟨by decide, by decide⟩ rfl rfl rfl rfl rfl ?_
  refine gi_pR 1 dX9_init_27 pq_X9_21 (by decide) (by decide) rfl rfl rfl ?_
  refine gi_aload_n dX9_init_30 rfl ?_
  refine gi_nw dX9_init_31 nw_X9_16 rfl (by decide) ⟨by decide, by decide⟩ 40 39 1714 rfl rfl rfl ?_
  refine gi_dup dX9_init_34 rfl ?_
  refine gi_aload_n dX9_init_35 rfl ?_
  refine gi_getR (j := 1) dX9_init_36 fl_X9_10 (by decide) rfl rfl rfl ?_
  refine gi_mk2 45 1888 dX9_init_39 (ci_Mount 39 (by decide)) ml_X9_18 mc_X3_init mi_X3_init rfl ⟨rfl, rfl⟩ ⟨by decide, by decide⟩ rfl rfl rfl rfl rfl ?_
  refine gi_pR 2 dX9_init_42 pq_X9_25 (by decide) (by decide) rfl rfl rfl ?_
  refine gi_aload_n dX9_init_45 rfl ?_
  refine gi_nw dX9_init_46 nw_X9_16 rfl (by decide) ⟨by decide, by decide⟩ 47 46 1902 rfl rfl rfl ?_
  refine gi_dup dX9_init_49 rfl ?_
  refine gi_aload_n dX9_init_50 rfl ?_
  refine gi_getR (j := 1) dX9_init_51 fl_X9_10 (by decide) rfl rfl rfl ?_
  refine gi_mk2 52 2076 dX9_init_54 (ci_Mount 46 (by decide)) ml_X9_18 mc_X3_init mi_X3_init rfl ⟨rfl, rfl⟩ ⟨by decide, by decide⟩ rfl rfl rfl rfl rfl ?_
  refine gi_pR 3 dX9_init_57 pq_X9_28 (by decide) (by decide) rfl rfl rfl ?_
  refine gi_aload_n dX9_init_60 rfl ?_
  refine gi_nw dX9_init_61 nw_X9_31 rfl (by decide) ⟨by decide, by decide⟩ 54 53 2078 rfl rfl rfl ?_
  refine gi_dup dX9_init_64 rfl ?_
  refine gi_mk2 55 2138 dX9_init_65 (ci_Ways) ml_X9_33 mc_X8_init mi_X8_init rfl ⟨rfl, rfl⟩ ⟨by decide, by decide⟩ rfl rfl rfl rfl rfl ?_
  refine gi_pR 4 dX9_init_68 pq_X9_34 (by decide) (by decide) rfl rfl rfl ?_
  refine gi_aload_n dX9_init_71 rfl ?_
  refine gi_nw dX9_init_72 nw_X9_38 rfl (by decide) ⟨by decide, by decide⟩ 57 56 2140 rfl rfl rfl ?_
  refine gi_dup dX9_init_75 rfl ?_
  refine gi_mk2 57 2236 dX9_init_76 (ci_Tape) ml_X9_40 mc_X7_init mi_X7_init rfl ⟨rfl, rfl⟩ ⟨by decide, by decide⟩ rfl rfl rfl rfl rfl ?_
  refine gi_pR 5 dX9_init_79 pq_X9_41 (by decide) (by decide) rfl rfl rfl ?_
  refine gi_aload_n dX9_init_82 rfl ?_
  refine gi_nw dX9_init_83 nw_X9_45 rfl (by decide) ⟨by decide, by decide⟩ 59 58 2241 rfl rfl rfl ?_
  refine gi_dup dX9_init_86 rfl ?_
  refine gi_aload_n dX9_init_87 rfl ?_
  refine gi_getR (j := 56) dX9_init_88 fl_X9_41 (by decide) rfl rfl rfl ?_
  refine gi_mk2 60 2341 dX9_init_91 (ci_Reader) ml_X9_47 mc_X4_init mi_X4_init rfl ⟨rfl, rfl⟩ ⟨by decide, by decide⟩ rfl rfl rfl rfl rfl ?_
  refine gi_pR 6 dX9_init_94 pq_X9_50 (by decide) (by decide) rfl rfl rfl ?_
  refine gi_aload_n dX9_init_97 rfl ?_
  refine gi_iconst dX9_init_98 rfl ?_
  refine gi_nQ 4 1 dX9_init_99 aq_X9_54 rfl rfl (by decide) rfl (by decide) ⟨by decide, by decide⟩ 62 61 2345 rfl rfl rfl ?_
  refine gi_pR 7 dX9_init_102 pq_X9_56 (by decide) (by decide) rfl rfl rfl ?_
  refine gi_iconst dX9_init_105 rfl ?_
  refine gi_istore_n dX9_init_106 rfl ?_
  refine gi_iload_n dX9_init_107 rfl ?_
  refine gi_iconst dX9_init_108 rfl ?_
  refine gi_icmp_ge (tgt := 131) dX9_init_109 rfl (fun h => absurd h (by decide)) (fun _ => ?_)
  refine gi_aload_n dX9_init_112 rfl ?_
  refine gi_getR (j := 61) dX9_init_113 fl_X9_56 (by decide) rfl rfl rfl ?_
  refine gi_iload_n dX9_init_116 rfl ?_
  refine gi_nw dX9_init_117 nw_X9_54 rfl (by decide) ⟨by decide, by decide⟩ 63 62 2348 rfl rfl rfl ?_
  refine gi_dup dX9_init_120 rfl ?_
  refine gi_mk2 63 2372 dX9_init_121 (ci_Sheet 62 (by decide)) ml_X9_60 mc_X5_init mi_X5_init rfl ⟨rfl, rfl⟩ ⟨by decide, by decide⟩ rfl rfl rfl rfl rfl ?_
  refine gi_aR 1 dX9_init_124 rfl (by decide) rfl (by decide) rfl rfl (by decide) (by decide) (by decide) 0 rfl ?_
  refine gi_iincN 1 dX9_init_125 rfl rfl ⟨by decide, by decide⟩ rfl ?_
  refine gi_goto (tgt := 107) dX9_init_128 rfl ?_
  refine gi_iload_n dX9_init_107 rfl ?_
  refine gi_iconst dX9_init_108 rfl ?_
  refine gi_icmp_ge (tgt := 131) dX9_init_109 rfl (fun h => absurd h (by decide)) (fun _ => ?_)
  refine gi_aload_n dX9_init_112 rfl ?_
  refine gi_getR (j := 61) dX9_init_113 fl_X9_56 (by decide) rfl rfl rfl ?_
  refine gi_iload_n dX9_init_116 rfl ?_
  refine gi_nw dX9_init_117 nw_X9_54 rfl (by decide) ⟨by decide, by decide⟩ 65 64 2375 rfl rfl rfl ?_
  refine gi_dup dX9_init_120 rfl ?_
  refine gi_mk2 65 2399 dX9_init_121 (ci_Sheet 64 (by decide)) ml_X9_60 mc_X5_init mi_X5_init rfl ⟨rfl, rfl⟩ ⟨by decide, by decide⟩ rfl rfl rfl rfl rfl ?_
  refine gi_aR 1 dX9_init_124 rfl (by decide) rfl (by decide) rfl rfl (by decide) (by decide) (by decide) 1 rfl ?_
  refine gi_iincN 2 dX9_init_125 rfl rfl ⟨by decide, by decide⟩ rfl ?_
  refine gi_goto (tgt := 107) dX9_init_128 rfl ?_
  refine gi_iload_n dX9_init_107 rfl ?_
  refine gi_iconst dX9_init_108 rfl ?_
  refine gi_icmp_ge (tgt := 131) dX9_init_109 rfl (fun h => absurd h (by decide)) (fun _ => ?_)
  refine gi_aload_n dX9_init_112 rfl ?_
  refine gi_getR (j := 61) dX9_init_113 fl_X9_56 (by decide) rfl rfl rfl ?_
  refine gi_iload_n dX9_init_116 rfl ?_
  refine gi_nw dX9_init_117 nw_X9_54 rfl (by decide) ⟨by decide, by decide⟩ 67 66 2402 rfl rfl rfl ?_
  refine gi_dup dX9_init_120 rfl ?_
  refine gi_mk2 67 2426 dX9_init_121 (ci_Sheet 66 (by decide)) ml_X9_60 mc_X5_init mi_X5_init rfl ⟨rfl, rfl⟩ ⟨by decide, by decide⟩ rfl rfl rfl rfl rfl ?_
  refine gi_aR 1 dX9_init_124 rfl (by decide) rfl (by decide) rfl rfl (by decide) (by decide) (by decide) 2 rfl ?_
  refine gi_iincN 3 dX9_init_125 rfl rfl ⟨by decide, by decide⟩ rfl ?_
  refine gi_goto (tgt := 107) dX9_init_128 rfl ?_
  refine gi_iload_n dX9_init_107 rfl ?_
  refine gi_iconst dX9_init_108 rfl ?_
  refine gi_icmp_ge (tgt := 131) dX9_init_109 rfl (fun h => absurd h (by decide)) (fun _ => ?_)
  refine gi_aload_n dX9_init_112 rfl ?_
  refine gi_getR (j := 61) dX9_init_113 fl_X9_56 (by decide) rfl rfl rfl ?_
  refine gi_iload_n dX9_init_116 rfl ?_
  refine gi_nw dX9_init_117 nw_X9_54 rfl (by decide) ⟨by decide, by decide⟩ 69 68 2429 rfl rfl rfl ?_
  refine gi_dup dX9_init_120 rfl ?_
  refine gi_mk2 69 2453 dX9_init_121 (ci_Sheet 68 (by decide)) ml_X9_60 mc_X5_init mi_X5_init rfl ⟨rfl, rfl⟩ ⟨by decide, by decide⟩ rfl rfl rfl rfl rfl ?_
  refine gi_aR 1 dX9_init_124 rfl (by decide) rfl (by decide) rfl rfl (by decide) (by decide) (by decide) 3 rfl ?_
  refine gi_iincN 4 dX9_init_125 rfl rfl ⟨by decide, by decide⟩ rfl ?_
  refine gi_goto (tgt := 107) dX9_init_128 rfl ?_
  refine gi_iload_n dX9_init_107 rfl ?_
  refine gi_iconst dX9_init_108 rfl ?_
  refine gi_icmp_ge (tgt := 131) dX9_init_109 rfl (fun _ => ?_) (fun h => absurd (by decide) h)
  refine gi_aload_n dX9_init_131 rfl ?_
  refine gi_iconst dX9_init_132 rfl ?_
  refine gi_nQ 5 2 dX9_init_133 aq_X9_61 rfl rfl (by decide) rfl (by decide) ⟨by decide, by decide⟩ 71 70 2458 rfl rfl rfl ?_
  refine gi_pR 8 dX9_init_136 pq_X9_63 (by decide) (by decide) rfl rfl rfl ?_
  refine gi_iconst dX9_init_139 rfl ?_
  refine gi_istore_n dX9_init_140 rfl ?_
  refine gi_iload_n dX9_init_141 rfl ?_
  refine gi_iconst dX9_init_142 rfl ?_
  refine gi_icmp_ge (tgt := 165) dX9_init_143 rfl (fun h => absurd h (by decide)) (fun _ => ?_)
  refine gi_aload_n dX9_init_146 rfl ?_
  refine gi_getR (j := 70) dX9_init_147 fl_X9_63 (by decide) rfl rfl rfl ?_
  refine gi_iload_n dX9_init_150 rfl ?_
  refine gi_nw dX9_init_151 nw_X9_61 rfl (by decide) ⟨by decide, by decide⟩ 72 71 2464 rfl rfl rfl ?_
  refine gi_dup dX9_init_154 rfl ?_
  refine gi_mk2 73 2491 dX9_init_155 (ci_Slot 71 (by decide)) ml_X9_67 mc_X6_init mi_X6_init rfl ⟨rfl, rfl⟩ ⟨by decide, by decide⟩ rfl rfl rfl rfl rfl ?_
  refine gi_aR 2 dX9_init_158 rfl (by decide) rfl (by decide) rfl rfl (by decide) (by decide) (by decide) 0 rfl ?_
  refine gi_iincN 1 dX9_init_159 rfl rfl ⟨by decide, by decide⟩ rfl ?_
  refine gi_goto (tgt := 141) dX9_init_162 rfl ?_
  refine gi_iload_n dX9_init_141 rfl ?_
  refine gi_iconst dX9_init_142 rfl ?_
  refine gi_icmp_ge (tgt := 165) dX9_init_143 rfl (fun h => absurd h (by decide)) (fun _ => ?_)
  refine gi_aload_n dX9_init_146 rfl ?_
  refine gi_getR (j := 70) dX9_init_147 fl_X9_63 (by decide) rfl rfl rfl ?_
  refine gi_iload_n dX9_init_150 rfl ?_
  refine gi_nw dX9_init_151 nw_X9_61 rfl (by decide) ⟨by decide, by decide⟩ 75 74 2497 rfl rfl rfl ?_
  refine gi_dup dX9_init_154 rfl ?_
  refine gi_mk2 76 2524 dX9_init_155 (ci_Slot 74 (by decide)) ml_X9_67 mc_X6_init mi_X6_init rfl ⟨rfl, rfl⟩ ⟨by decide, by decide⟩ rfl rfl rfl rfl rfl ?_
  refine gi_aR 2 dX9_init_158 rfl (by decide) rfl (by decide) rfl rfl (by decide) (by decide) (by decide) 1 rfl ?_
  refine gi_iincN 2 dX9_init_159 rfl rfl ⟨by decide, by decide⟩ rfl ?_
  refine gi_goto (tgt := 141) dX9_init_162 rfl ?_
  refine gi_iload_n dX9_init_141 rfl ?_
  refine gi_iconst dX9_init_142 rfl ?_
  refine gi_icmp_ge (tgt := 165) dX9_init_143 rfl (fun h => absurd h (by decide)) (fun _ => ?_)
  refine gi_aload_n dX9_init_146 rfl ?_
  refine gi_getR (j := 70) dX9_init_147 fl_X9_63 (by decide) rfl rfl rfl ?_
  refine gi_iload_n dX9_init_150 rfl ?_
  refine gi_nw dX9_init_151 nw_X9_61 rfl (by decide) ⟨by decide, by decide⟩ 78 77 2530 rfl rfl rfl ?_
  refine gi_dup dX9_init_154 rfl ?_
  refine gi_mk2 79 2557 dX9_init_155 (ci_Slot 77 (by decide)) ml_X9_67 mc_X6_init mi_X6_init rfl ⟨rfl, rfl⟩ ⟨by decide, by decide⟩ rfl rfl rfl rfl rfl ?_
  refine gi_aR 2 dX9_init_158 rfl (by decide) rfl (by decide) rfl rfl (by decide) (by decide) (by decide) 2 rfl ?_
  refine gi_iincN 3 dX9_init_159 rfl rfl ⟨by decide, by decide⟩ rfl ?_
  refine gi_goto (tgt := 141) dX9_init_162 rfl ?_
  refine gi_iload_n dX9_init_141 rfl ?_
  refine gi_iconst dX9_init_142 rfl ?_
  refine gi_icmp_ge (tgt := 165) dX9_init_143 rfl (fun h => absurd h (by decide)) (fun _ => ?_)
  refine gi_aload_n dX9_init_146 rfl ?_
  refine gi_getR (j := 70) dX9_init_147 fl_X9_63 (by decide) rfl rfl rfl ?_
  refine gi_iload_n dX9_init_150 rfl ?_
  refine gi_nw dX9_init_151 nw_X9_61 rfl (by decide) ⟨by decide, by decide⟩ 81 80 2563 rfl rfl rfl ?_
  refine gi_dup dX9_init_154 rfl ?_
  refine gi_mk2 82 2590 dX9_init_155 (ci_Slot 80 (by decide)) ml_X9_67 mc_X6_init mi_X6_init rfl ⟨rfl, rfl⟩ ⟨by decide, by decide⟩ rfl rfl rfl rfl rfl ?_
  refine gi_aR 2 dX9_init_158 rfl (by decide) rfl (by decide) rfl rfl (by decide) (by decide) (by decide) 3 rfl ?_
  refine gi_iincN 4 dX9_init_159 rfl rfl ⟨by decide, by decide⟩ rfl ?_
  refine gi_goto (tgt := 141) dX9_init_162 rfl ?_
  refine gi_iload_n dX9_init_141 rfl ?_
  refine gi_iconst dX9_init_142 rfl ?_
  refine gi_icmp_ge (tgt := 165) dX9_init_143 rfl (fun h => absurd h (by decide)) (fun _ => ?_)
  refine gi_aload_n dX9_init_146 rfl ?_
  refine gi_getR (j := 70) dX9_init_147 fl_X9_63 (by decide) rfl rfl rfl ?_
  refine gi_iload_n dX9_init_150 rfl ?_
  refine gi_nw dX9_init_151 nw_X9_61 rfl (by decide) ⟨by decide, by decide⟩ 84 83 2596 rfl rfl rfl ?_
  refine gi_dup dX9_init_154 rfl ?_
  refine gi_mk2 85 2623 dX9_init_155 (ci_Slot 83 (by decide)) ml_X9_67 mc_X6_init mi_X6_init rfl ⟨rfl, rfl⟩ ⟨by decide, by decide⟩ rfl rfl rfl rfl rfl ?_
  refine gi_aR 2 dX9_init_158 rfl (by decide) rfl (by decide) rfl rfl (by decide) (by decide) (by decide) 4 rfl ?_
  refine gi_iincN 5 dX9_init_159 rfl rfl ⟨by decide, by decide⟩ rfl ?_
  refine gi_goto (tgt := 141) dX9_init_162 rfl ?_
  refine gi_iload_n dX9_init_141 rfl ?_
  refine gi_iconst dX9_init_142 rfl ?_
  refine gi_icmp_ge (tgt := 165) dX9_init_143 rfl (fun _ => ?_) (fun h => absurd (by decide) h)
  refine gi_aload_n dX9_init_165 rfl ?_
  refine gi_bipush dX9_init_166 rfl (by decide) ?_
  refine gi_nI 60 dX9_init_168 rfl (by decide) rfl (by decide) ⟨by decide, by decide⟩ 87 86 2683 rfl rfl rfl ?_
  refine gi_pR 9 dX9_init_170 pq_X9_68 (by decide) (by decide) rfl rfl rfl ?_
  exact gi_mret dX9_init_173 rfl ⟨by decide, by decide⟩ ⟨rfl, rfl, rfl, rfl⟩
def rModel (ρ : RefM) : RefM := (pR (nR (pR (nR (pR (nR (pR (nR (pR (nR (pR (nR (pR (nR (pR (nR (pR (nR (pR (nR (pR (nR (pR (nR (pR (nR (pR (nR (pR (nR (pR (nR (pR (nR (pR (nR (pR (nR (pR (nR (pR (nR (pR (nR (pR (nR (pR (nR (pR (nR ρ 88) 87 0 88) 89) 87 1 89) 90) 87 2 90) 91) 87 4 91) 92) 87 5 92) 93) 87 6 93) 94) 87 7 94) 95) 87 8 95) 96) 87 9 96) 97) 87 10 97) 98) 87 11 98) 99) 87 12 99) 100) 87 13 100) 101) 87 14 101) 102) 87 15 102) 103) 87 16 103) 104) 87 17 104) 105) 87 18 105) 106) 87 19 106) 107) 87 20 107) 108) 87 32 108) 109) 87 33 109) 110) 87 34 110) 111) 87 35 111) 112) 87 37 112)
def mModel (μ : Mem) : Mem := (ud (ud (ud (ud (ud (ud (ud (ud (nM (nM (nM (nM (nM (nM (nM (nM (nM (nM (nM (nM (nM (nM (nM (nM (nM (nM (nM (nM (nM (nM (nM (nM (nM μ 88) 89) 90) 91) 92) 93) 94) 95) 96) 97) 98) 99) 100) 101) 102) 103) 104) 105) 106) 107) 108) 109) 110) 111) 112) 88 2 (2)) 88 3 (6)) 88 4 (3)) 88 6 (1)) 91 0 (-1)) 91 1 (-1)) 91 2 (-1)) 91 3 (-1))
set_option maxRecDepth 100000 in
set_option maxHeartbeats 4000000 in
theorem ci_Model {l : Launch} {D : va_G} {cA : Nat → ClassId} {ρ : RefM} {μ : Mem}  : Ct l D cA yX10_init cX10_init 2 none (1, 25, 10410) 88 ρ [vr 87] μ (QM 113 (rModel ρ) (mModel μ)) := by
  refine Ct.ofI (own := RX10) (by decide +kernel) rfl rfl (fun σ => Nat.le_of_ble_eq_true rfl) (fun hM hP ha => ?_)
  refine gi_aload_n dX10_init_0 rfl ?_
  refine gi_obj dX10_init_1 ol_X10_1 rfl ?_
  refine gi_aload_n dX10_init_4 rfl ?_
  refine gi_sipush dX10_init_5 rfl (by decide) ?_
  refine gi_nI 3122 dX10_init_8 rfl (by decide) rfl (by decide) ⟨by decide, by decide⟩ 89 1 3122 rfl rfl rfl ?_
  refine gi_pR 0 dX10_init_10 pq_X10_7 (by decide) (by decide) rfl rfl rfl ?_
  refine gi_aload_n dX10_init_13 rfl ?_
  refine gi_sipush dX10_init_14 rfl (by decide) ?_
  refine gi_nI 3122 dX10_init_17 rfl (by decide) rfl (by decide) ⟨by decide, by decide⟩ 90 2 6244 rfl rfl rfl ?_
  refine gi_pR 1 dX10_init_19 pq_X10_13 (by decide) (by decide) rfl rfl rfl ?_
  refine gi_aload_n dX10_init_22 rfl ?_
  refine gi_sipush dX10_init_23 rfl (by decide) ?_
  refine gi_nI 3122 dX10_init_26 rfl (by decide) rfl (by decide) ⟨by decide, by decide⟩ 91 3 9366 rfl rfl rfl ?_
  refine gi_pR 2 dX10_init_28 pq_X10_16 (by decide) (by decide) rfl rfl rfl ?_
  refine gi_aload_n dX10_init_31 rfl ?_
  refine gi_iconst dX10_init_32 rfl ?_
  refine gi_nI 4 dX10_init_33 rfl (by decide) rfl (by decide) ⟨by decide, by decide⟩ 92 4 9370 rfl rfl rfl ?_
  refine gi_pR 4 dX10_init_35 pq_X10_19 (by decide) (by decide) rfl rfl rfl ?_
  refine gi_aload_n dX10_init_38 rfl ?_
  refine gi_iconst dX10_init_39 rfl ?_
  refine gi_nI 4 dX10_init_40 rfl (by decide) rfl (by decide) ⟨by decide, by decide⟩ 93 5 9374 rfl rfl rfl ?_
  refine gi_pR 5 dX10_init_42 pq_X10_22 (by decide) (by decide) rfl rfl rfl ?_
  refine gi_aload_n dX10_init_45 rfl ?_
  refine gi_bipush dX10_init_46 rfl (by decide) ?_
  refine gi_nI 96 dX10_init_48 rfl (by decide) rfl (by decide) ⟨by decide, by decide⟩ 94 6 9470 rfl rfl rfl ?_
  refine gi_pR 6 dX10_init_50 pq_X10_25 (by decide) (by decide) rfl rfl rfl ?_
  refine gi_aload_n dX10_init_53 rfl ?_
  refine gi_iconst dX10_init_54 rfl ?_
  refine gi_nI 5 dX10_init_55 rfl (by decide) rfl (by decide) ⟨by decide, by decide⟩ 95 7 9475 rfl rfl rfl ?_
  refine gi_pR 7 dX10_init_57 pq_X10_28 (by decide) (by decide) rfl rfl rfl ?_
  refine gi_aload_n dX10_init_60 rfl ?_
  refine gi_iconst dX10_init_61 rfl ?_
  refine gi_nI 5 dX10_init_62 rfl (by decide) rfl (by decide) ⟨by decide, by decide⟩ 96 8 9480 rfl rfl rfl ?_
  refine gi_pR 8 dX10_init_64 pq_X10_31 (by decide) (by decide) rfl rfl rfl ?_
  refine gi_aload_n dX10_init_67 rfl ?_
  refine gi_iconst dX10_init_68 rfl ?_
  refine gi_nI 5 dX10_init_69 rfl (by decide) rfl (by decide) ⟨by decide, by decide⟩ 97 9 9485 rfl rfl rfl ?_
  refine gi_pR 9 dX10_init_71 pq_X10_34 (by decide) (by decide) rfl rfl rfl ?_
  refine gi_aload_n dX10_init_74 rfl ?_
  refine gi_iconst dX10_init_75 rfl ?_
  refine gi_nI 5 dX10_init_76 rfl (by decide) rfl (by decide) ⟨by decide, by decide⟩ 98 10 9490 rfl rfl rfl ?_
  refine gi_pR 10 dX10_init_78 pq_X10_37 (by decide) (by decide) rfl rfl rfl ?_
  refine gi_aload_n dX10_init_81 rfl ?_
  refine gi_bipush dX10_init_82 rfl (by decide) ?_
  refine gi_nI 120 dX10_init_84 rfl (by decide) rfl (by decide) ⟨by decide, by decide⟩ 99 11 9610 rfl rfl rfl ?_
  refine gi_pR 11 dX10_init_86 pq_X10_40 (by decide) (by decide) rfl rfl rfl ?_
  refine gi_aload_n dX10_init_89 rfl ?_
  refine gi_bipush dX10_init_90 rfl (by decide) ?_
  refine gi_nI 30 dX10_init_92 rfl (by decide) rfl (by decide) ⟨by decide, by decide⟩ 100 12 9640 rfl rfl rfl ?_
  refine gi_pR 12 dX10_init_94 pq_X10_43 (by decide) (by decide) rfl rfl rfl ?_
  refine gi_aload_n dX10_init_97 rfl ?_
  refine gi_bipush dX10_init_98 rfl (by decide) ?_
  refine gi_nI 122 dX10_init_100 rfl (by decide) rfl (by decide) ⟨by decide, by decide⟩ 101 13 9762 rfl rfl rfl ?_
  refine gi_pR 13 dX10_init_102 pq_X10_46 (by decide) (by decide) rfl rfl rfl ?_
  refine gi_aload_n dX10_init_105 rfl ?_
  refine gi_bipush dX10_init_106 rfl (by decide) ?_
  refine gi_nI 30 dX10_init_108 rfl (by decide) rfl (by decide) ⟨by decide, by decide⟩ 102 14 9792 rfl rfl rfl ?_
  refine gi_pR 14 dX10_init_110 pq_X10_49 (by decide) (by decide) rfl rfl rfl ?_
  refine gi_aload_n dX10_init_113 rfl ?_
  refine gi_bipush dX10_init_114 rfl (by decide) ?_
  refine gi_nI 30 dX10_init_116 rfl (by decide) rfl (by decide) ⟨by decide, by decide⟩ 103 15 9822 rfl rfl rfl ?_
  refine gi_pR 15 dX10_init_118 pq_X10_52 (by decide) (by decide) rfl rfl rfl ?_
  refine gi_aload_n dX10_init_121 rfl ?_
  refine gi_bipush dX10_init_122 rfl (by decide) ?_
  refine gi_nI 30 dX10_init_124 rfl (by decide) rfl (by decide) ⟨by decide, by decide⟩ 104 16 9852 rfl rfl rfl ?_
  refine gi_pR 16 dX10_init_126 pq_X10_55 (by decide) (by decide) rfl rfl rfl ?_
  refine gi_aload_n dX10_init_129 rfl ?_
  refine gi_bipush dX10_init_130 rfl (by decide) ?_
  refine gi_nI 30 dX10_init_132 rfl (by decide) rfl (by decide) ⟨by decide, by decide⟩ 105 17 9882 rfl rfl rfl ?_
  refine gi_pR 17 dX10_init_134 pq_X10_58 (by decide) (by decide) rfl rfl rfl ?_
  refine gi_aload_n dX10_init_137 rfl ?_
  refine gi_bipush dX10_init_138 rfl (by decide) ?_
  refine gi_nI 30 dX10_init_140 rfl (by decide) rfl (by decide) ⟨by decide, by decide⟩ 106 18 9912 rfl rfl rfl ?_
  refine gi_pR 18 dX10_init_142 pq_X10_61 (by decide) (by decide) rfl rfl rfl ?_
  refine gi_aload_n dX10_init_145 rfl ?_
  refine gi_bipush dX10_init_146 rfl (by decide) ?_
  refine gi_nZ 30 dX10_init_148 rfl (by decide) rfl (by decide) ⟨by decide, by decide⟩ 107 19 9942 rfl rfl rfl ?_
  refine gi_pR 19 dX10_init_150 pq_X10_64 (by decide) (by decide) rfl rfl rfl ?_
  refine gi_aload_n dX10_init_153 rfl ?_
  refine gi_bipush dX10_init_154 rfl (by decide) ?_
  refine gi_nI 96 dX10_init_156 rfl (by decide) rfl (by decide) ⟨by decide, by decide⟩ 108 20 10038 rfl rfl rfl ?_
  refine gi_pR 20 dX10_init_158 pq_X10_68 (by decide) (by decide) rfl rfl rfl ?_
  refine gi_aload_n dX10_init_161 rfl ?_
  refine gi_sipush dX10_init_162 rfl (by decide) ?_
  refine gi_nI 128 dX10_init_165 rfl (by decide) rfl (by decide) ⟨by decide, by decide⟩ 109 21 10166 rfl rfl rfl ?_
  refine gi_pR 32 dX10_init_167 pq_X10_71 (by decide) (by decide) rfl rfl rfl ?_
  refine gi_aload_n dX10_init_170 rfl ?_
  refine gi_bipush dX10_init_171 rfl (by decide) ?_
  refine gi_nI 100 dX10_init_173 rfl (by decide) rfl (by decide) ⟨by decide, by decide⟩ 110 22 10266 rfl rfl rfl ?_
  refine gi_pR 33 dX10_init_175 pq_X10_74 (by decide) (by decide) rfl rfl rfl ?_
  refine gi_aload_n dX10_init_178 rfl ?_
  refine gi_bipush dX10_init_179 rfl (by decide) ?_
  refine gi_nI 24 dX10_init_181 rfl (by decide) rfl (by decide) ⟨by decide, by decide⟩ 111 23 10290 rfl rfl rfl ?_
  refine gi_pR 34 dX10_init_183 pq_X10_77 (by decide) (by decide) rfl rfl rfl ?_
  refine gi_aload_n dX10_init_186 rfl ?_
  refine gi_bipush dX10_init_187 rfl (by decide) ?_
  refine gi_nI 60 dX10_init_189 rfl (by decide) rfl (by decide) ⟨by decide, by decide⟩ 112 24 10350 rfl rfl rfl ?_
  refine gi_pR 35 dX10_init_191 pq_X10_80 (by decide) (by decide) rfl rfl rfl ?_
  refine gi_aload_n dX10_init_194 rfl ?_
  refine gi_bipush dX10_init_195 rfl (by decide) ?_
  refine gi_nI 60 dX10_init_197 rfl (by decide) rfl (by decide) ⟨by decide, by decide⟩ 113 25 10410 rfl rfl rfl ?_
  refine gi_pR 37 dX10_init_199 pq_X10_83 (by decide) (by decide) rfl rfl rfl ?_
  refine gi_aload_n dX10_init_202 rfl ?_
  refine gi_getR (j := 88) dX10_init_203 fl_X10_7 (by decide) rfl rfl rfl ?_
  refine gi_iconst dX10_init_206 rfl ?_
  refine gi_iconst dX10_init_207 rfl ?_
  refine gi_iastore dX10_init_208 (by decide) rfl (by decide) (by decide) ?_
  refine gi_aload_n dX10_init_209 rfl ?_
  refine gi_getR (j := 88) dX10_init_210 fl_X10_7 (by decide) rfl rfl rfl ?_
  refine gi_iconst dX10_init_213 rfl ?_
  refine gi_bipush dX10_init_214 rfl (by decide) ?_
  refine gi_iastore dX10_init_216 (by decide) rfl (by decide) (by decide) ?_
  refine gi_aload_n dX10_init_217 rfl ?_
  refine gi_getR (j := 88) dX10_init_218 fl_X10_7 (by decide) rfl rfl rfl ?_
  refine gi_iconst dX10_init_221 rfl ?_
  refine gi_iconst dX10_init_222 rfl ?_
  refine gi_iastore dX10_init_223 (by decide) rfl (by decide) (by decide) ?_
  refine gi_aload_n dX10_init_224 rfl ?_
  refine gi_getR (j := 88) dX10_init_225 fl_X10_7 (by decide) rfl rfl rfl ?_
  refine gi_bipush dX10_init_228 rfl (by decide) ?_
  refine gi_iconst dX10_init_230 rfl ?_
  refine gi_iastore dX10_init_231 (by decide) rfl (by decide) (by decide) ?_
  refine gi_iconst dX10_init_232 rfl ?_
  refine gi_istore_n dX10_init_233 rfl ?_
  refine gi_iload_n dX10_init_234 rfl ?_
  refine gi_iconst dX10_init_235 rfl ?_
  refine gi_icmp_ge (tgt := 252) dX10_init_236 rfl (fun h => absurd h (by decide)) (fun _ => ?_)
  refine gi_aload_n dX10_init_239 rfl ?_
  refine gi_getR (j := 91) dX10_init_240 fl_X10_19 (by decide) rfl rfl rfl ?_
  refine gi_iload_n dX10_init_243 rfl ?_
  refine gi_iconst dX10_init_244 rfl ?_
  refine gi_iastore dX10_init_245 (by decide) rfl (by decide) (by decide) ?_
  refine gi_iincN 1 dX10_init_246 rfl rfl ⟨by decide, by decide⟩ rfl ?_
  refine gi_goto (tgt := 234) dX10_init_249 rfl ?_
  refine gi_iload_n dX10_init_234 rfl ?_
  refine gi_iconst dX10_init_235 rfl ?_
  refine gi_icmp_ge (tgt := 252) dX10_init_236 rfl (fun h => absurd h (by decide)) (fun _ => ?_)
  refine gi_aload_n dX10_init_239 rfl ?_
  refine gi_getR (j := 91) dX10_init_240 fl_X10_19 (by decide) rfl rfl rfl ?_
  refine gi_iload_n dX10_init_243 rfl ?_
  refine gi_iconst dX10_init_244 rfl ?_
  refine gi_iastore dX10_init_245 (by decide) rfl (by decide) (by decide) ?_
  refine gi_iincN 2 dX10_init_246 rfl rfl ⟨by decide, by decide⟩ rfl ?_
  refine gi_goto (tgt := 234) dX10_init_249 rfl ?_
  refine gi_iload_n dX10_init_234 rfl ?_
  refine gi_iconst dX10_init_235 rfl ?_
  refine gi_icmp_ge (tgt := 252) dX10_init_236 rfl (fun h => absurd h (by decide)) (fun _ => ?_)
  refine gi_aload_n dX10_init_239 rfl ?_
  refine gi_getR (j := 91) dX10_init_240 fl_X10_19 (by decide) rfl rfl rfl ?_
  refine gi_iload_n dX10_init_243 rfl ?_
  refine gi_iconst dX10_init_244 rfl ?_
  refine gi_iastore dX10_init_245 (by decide) rfl (by decide) (by decide) ?_
  refine gi_iincN 3 dX10_init_246 rfl rfl ⟨by decide, by decide⟩ rfl ?_
  refine gi_goto (tgt := 234) dX10_init_249 rfl ?_
  refine gi_iload_n dX10_init_234 rfl ?_
  refine gi_iconst dX10_init_235 rfl ?_
  refine gi_icmp_ge (tgt := 252) dX10_init_236 rfl (fun h => absurd h (by decide)) (fun _ => ?_)
  refine gi_aload_n dX10_init_239 rfl ?_
  refine gi_getR (j := 91) dX10_init_240 fl_X10_19 (by decide) rfl rfl rfl ?_
  refine gi_iload_n dX10_init_243 rfl ?_
  refine gi_iconst dX10_init_244 rfl ?_
  refine gi_iastore dX10_init_245 (by decide) rfl (by decide) (by decide) ?_
  refine gi_iincN 4 dX10_init_246 rfl rfl ⟨by decide, by decide⟩ rfl ?_
  refine gi_goto (tgt := 234) dX10_init_249 rfl ?_
  refine gi_iload_n dX10_init_234 rfl ?_
  refine gi_iconst dX10_init_235 rfl ?_
  refine gi_icmp_ge (tgt := 252) dX10_init_236 rfl (fun _ => ?_) (fun h => absurd (by decide) h)
  exact gi_mret dX10_init_252 rfl ⟨by decide, by decide⟩ ⟨rfl, rfl, rfl, rfl⟩
