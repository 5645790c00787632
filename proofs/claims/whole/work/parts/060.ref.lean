/-! THE REFERENCE: its row of numbers seen as a mountain; its small methods -/
def cdV (w v : Int) : Int := if w = 0 then v else -v
def vm (f : Int → Int) : Mem := fun q k =>
  if q = 32 then (if k = 7 then f 0 else if k = 8 then f 2 else if k = 9 then f 3 else if k = 10 then f 4 else if k = 11 then f 6 else if k = 12 then f 5 else if k = 13 then f 1 else 0)
  else if q = 33 then (if 0 ≤ k ∧ k < 30 then f (8 + 3 * k + 0) else 0)
  else if q = 34 then (if 0 ≤ k ∧ k < 30 then f (8 + 3 * k + 1) else 0)
  else if q = 35 then (if 0 ≤ k ∧ k < 30 then f (8 + 3 * k + 2) else 0)
  else if q = 36 then (if 0 ≤ k ∧ k < 24 then f (98 + k) else 0)
  else if 4 ≤ q ∧ q < 32 then
    (if q % 2 = 0 then (if 0 ≤ k ∧ k < 3 then f (122 + 200 * ((q - 4) / 2 : Nat) + k) else 0)
     else (if 0 ≤ k ∧ k < 96 then cdV (f (122 + 200 * ((q - 4) / 2 : Nat) + 4 + 2 * k)) (f (122 + 200 * ((q - 4) / 2 : Nat) + 4 + 2 * k + 1)) else 0))
  else 0
theorem vm_32 {f : Int → Int} : vm f 32 7 = f 0 ∧ vm f 32 8 = f 2 ∧ vm f 32 9 = f 3 ∧ vm f 32 10 = f 4 ∧ vm f 32 11 = f 6 ∧ vm f 32 12 = f 5 ∧ vm f 32 13 = f 1 := ⟨rfl, rfl, rfl, rfl, rfl, rfl, rfl⟩
theorem vm_33 {f : Int → Int} {c : Int} (h0 : 0 ≤ c) (h1 : c < 30) : vm f 33 c = f (8 + 3 * c + 0) := by
  show (if 0 ≤ c ∧ c < 30 then f (8 + 3 * c + 0) else 0) = _
  exact if_pos ⟨h0, h1⟩
theorem vm_34 {f : Int → Int} {c : Int} (h0 : 0 ≤ c) (h1 : c < 30) : vm f 34 c = f (8 + 3 * c + 1) := by
  show (if 0 ≤ c ∧ c < 30 then f (8 + 3 * c + 1) else 0) = _
  exact if_pos ⟨h0, h1⟩
theorem vm_35 {f : Int → Int} {c : Int} (h0 : 0 ≤ c) (h1 : c < 30) : vm f 35 c = f (8 + 3 * c + 2) := by
  show (if 0 ≤ c ∧ c < 30 then f (8 + 3 * c + 2) else 0) = _
  exact if_pos ⟨h0, h1⟩
theorem vm_36 {f : Int → Int} {c : Int} (h0 : 0 ≤ c) (h1 : c < 24) : vm f 36 c = f (98 + c) := by
  show (if 0 ≤ c ∧ c < 24 then f (98 + c) else 0) = _
  exact if_pos ⟨h0, h1⟩
theorem vm_lw {f : Int → Int} {i : Nat} {k : Int} (hi : i < 14) (h0 : 0 ≤ k) (h1 : k < 3) : vm f (4 + 2 * i) k = f (122 + 200 * (i : Nat) + k) := by
  unfold vm
  rw [if_neg (by omega), if_neg (by omega), if_neg (by omega), if_neg (by omega), if_neg (by omega), if_pos (by omega), if_pos (by omega), if_pos ⟨h0, h1⟩, show (4 + 2 * i - 4) / 2 = i by omega]
theorem vm_cd {f : Int → Int} {i : Nat} {k : Int} (hi : i < 14) (h0 : 0 ≤ k) (h1 : k < 96) : vm f (4 + 2 * i + 1) k = cdV (f (122 + 200 * (i : Nat) + 4 + 2 * k)) (f (122 + 200 * (i : Nat) + 4 + 2 * k + 1)) := by
  unfold vm
  rw [if_neg (by omega), if_neg (by omega), if_neg (by omega), if_neg (by omega), if_neg (by omega), if_pos (by omega), if_neg (by omega), if_pos ⟨h0, h1⟩, show (4 + 2 * i + 1 - 4) / 2 = i by omega]
def sgN (v : Int) : Prop := v = 33 ∨ v = 124 ∨ v = 38 ∨ v = 60 ∨ v = 61 ∨ v = 62 ∨ v = 43 ∨ v = 45 ∨ v = 42 ∨ v = 47
/-- the steps of the texts are numbers, names, signs -/
def stOK (w v : Int) : Prop := (w = 0 ∧ 0 ≤ v ∧ v ≤ 9999) ∨ (w = 1 ∧ 97 ≤ v ∧ v ≤ 122) ∨ (w = 2 ∧ sgN v)
def txI (f : Int → Int) : Prop := ∀ (i : Nat) (k : Int), i < (f 1).toNat → 0 ≤ k → k < f (122 + 200 * (i : Nat) + 2) → stOK (f (122 + 200 * (i : Nat) + 4 + 2 * k)) (f (122 + 200 * (i : Nat) + 4 + 2 * k + 1))
def mdI (f : Int → Int) : Prop := mtI (vm f) 32 ∧ txI f
/-- the texts are well made -/
def tI (f : Int → Int) : Prop := (0 ≤ f 1 ∧ f 1 ≤ 14) ∧ lwI (vm f) (f 1).toNat ∧ txI f
theorem md_t {f : Int → Int} (h : mdI f) : tI f := ⟨h.1.2.2.2.2.2.2.2.2.1, h.1.2.2.2.2.2.2.2.2.2, h.2⟩
theorem md_b {f : Int → Int} (h : mdI f) : (∀ c, 0 ≤ c → c < 30 → 0 ≤ f (8 + 3 * c + 0) ∧ f (8 + 3 * c + 0) ≤ 5) ∧ (∀ c, 0 ≤ c → c < 30 → 0 ≤ f (8 + 3 * c + 1) ∧ f (8 + 3 * c + 1) ≤ 60) ∧ (∀ c, 0 ≤ c → c < 30 → 0 ≤ f (8 + 3 * c + 2) ∧ f (8 + 3 * c + 2) ≤ 999) ∧ (∀ i, 0 ≤ i → i < 24 → 0 ≤ f (98 + i) ∧ f (98 + i) < 30) ∧ (0 ≤ f 0 ∧ f 0 ≤ 24) ∧ (0 ≤ f 2 ∧ f 2 ≤ 5) ∧ (0 ≤ f 3 ∧ f 3 ≤ 23) ∧ (0 ≤ f 4 ∧ f 4 ≤ 9) ∧ (0 ≤ f 1 ∧ f 1 ≤ 14) := by
  obtain ⟨⟨iK, iS, iL, iT, iTn, iD, iH, iF, iX, iW⟩, hx⟩ := h
  exact ⟨fun c a b => by rw [← vm_33 (f := f) a b]; exact iK c a b, fun c a b => by rw [← vm_34 (f := f) a b]; exact iS c a b, fun c a b => by rw [← vm_35 (f := f) a b]; exact iL c a b, fun i a b => by rw [← vm_36 (f := f) a b]; exact iT i a b, iTn, iD, iH, iF, iX⟩
theorem lcI_lt {a b : Int} : lcI a b < 0 ↔ a < b := by unfold lcI; split <;> (try split) <;> omega
theorem lcI_gt {a b : Int} : 0 < lcI a b ↔ b < a := by unfold lcI; split <;> (try split) <;> omega
theorem lcI_le {a b : Int} : lcI a b ≤ 0 ↔ a ≤ b := by unfold lcI; split <;> (try split) <;> omega
theorem lcI_ge {a b : Int} : 0 ≤ lcI a b ↔ b ≤ a := by unfold lcI; split <;> (try split) <;> omega

theorem md_f : shp 87 = (9, 38) ∧ ρ0 87 (0 : Nat) = some 88 ∧ shp 88 = (20, 3122) ∧ ρ0 87 (1 : Nat) = some 89 ∧ shp 89 = (20, 3122) ∧ ρ0 87 (2 : Nat) = some 90 ∧ shp 90 = (20, 3122) ∧ ρ0 87 (4 : Nat) = some 91 ∧ shp 91 = (20, 4) ∧ ρ0 87 (5 : Nat) = some 92 ∧ shp 92 = (20, 4) ∧ ρ0 87 (6 : Nat) = some 93 ∧ shp 93 = (20, 96) ∧ ρ0 87 (7 : Nat) = some 94 ∧ shp 94 = (20, 5) ∧ ρ0 87 (8 : Nat) = some 95 ∧ shp 95 = (20, 5) ∧ ρ0 87 (9 : Nat) = some 96 ∧ shp 96 = (20, 5) ∧ ρ0 87 (10 : Nat) = some 97 ∧ shp 97 = (20, 5) ∧ ρ0 87 (11 : Nat) = some 98 ∧ shp 98 = (20, 120) ∧ ρ0 87 (12 : Nat) = some 99 ∧ shp 99 = (20, 30) ∧ ρ0 87 (13 : Nat) = some 100 ∧ shp 100 = (20, 122) ∧ ρ0 87 (14 : Nat) = some 101 ∧ shp 101 = (20, 30) ∧ ρ0 87 (15 : Nat) = some 102 ∧ shp 102 = (20, 30) ∧ ρ0 87 (16 : Nat) = some 103 ∧ shp 103 = (20, 30) ∧ ρ0 87 (17 : Nat) = some 104 ∧ shp 104 = (20, 30) ∧ ρ0 87 (18 : Nat) = some 105 ∧ shp 105 = (20, 30) ∧ ρ0 87 (19 : Nat) = some 106 ∧ shp 106 = (21, 30) ∧ ρ0 87 (20 : Nat) = some 107 ∧ shp 107 = (20, 96) ∧ ρ0 87 (32 : Nat) = some 108 ∧ shp 108 = (20, 128) ∧ ρ0 87 (33 : Nat) = some 109 ∧ shp 109 = (20, 100) ∧ ρ0 87 (34 : Nat) = some 110 ∧ shp 110 = (20, 24) ∧ ρ0 87 (35 : Nat) = some 111 ∧ shp 111 = (20, 60) ∧ ρ0 87 (37 : Nat) = some 112 ∧ shp 112 = (20, 60) := ⟨by decide +kernel, by decide +kernel, by decide +kernel, by decide +kernel, by decide +kernel, by decide +kernel, by decide +kernel, by decide +kernel, by decide +kernel, by decide +kernel, by decide +kernel, by decide +kernel, by decide +kernel, by decide +kernel, by decide +kernel, by decide +kernel, by decide +kernel, by decide +kernel, by decide +kernel, by decide +kernel, by decide +kernel, by decide +kernel, by decide +kernel, by decide +kernel, by decide +kernel, by decide +kernel, by decide +kernel, by decide +kernel, by decide +kernel, by decide +kernel, by decide +kernel, by decide +kernel, by decide +kernel, by decide +kernel, by decide +kernel, by decide +kernel, by decide +kernel, by decide +kernel, by decide +kernel, by decide +kernel, by decide +kernel, by decide +kernel, by decide +kernel, by decide +kernel, by decide +kernel, by decide +kernel, by decide +kernel, by decide +kernel, by decide +kernel, by decide +kernel, by decide +kernel⟩
set_option maxRecDepth 100000 in
set_option maxHeartbeats 4000000 in
theorem ct_X10_isIn {l : Launch} {D : va_G} {cA : Nat → ClassId} {μ : Mem} (v a b : Int) : CtN l D cA yX10_isIn cX10_isIn 6 (some .boolean) 1 [vl v, vl a, vl b] μ (Pi (fun x μ' => x = tv (a ≤ v ∧ v ≤ b) inferInstance ∧ μ' = μ)) := by
  refine Ct.of (own := RX10) (by decide +kernel) rfl (fun σ => Nat.le_of_ble_eq_true rfl) (fun hM hP ha => ?_)
  obtain ⟨m87, r88, s88, r89, s89, r90, s90, r91, s91, r92, s92, r93, s93, r94, s94, r95, s95, r96, s96, r97, s97, r98, s98, r99, s99, r100, s100, r101, s101, r102, s102, r103, s103, r104, s104, r105, s105, r106, s106, r107, s107, r108, s108, r109, s109, r110, s110, r111, s111, r112, s112⟩ := md_f
  refine go_lload_n dX10_isIn_0 rfl ?_
  refine go_lload_n dX10_isIn_1 rfl ?_
  refine go_lcmp dX10_isIn_2 ?_
  refine go_if_lt (tgt := 17) dX10_isIn_3 rfl (fun h3 => ?_) (fun h3 => ?_)
  ·
    rw [lcI_lt] at h3
    refine go_iconst dX10_isIn_17 rfl ?_
    exact go_ri dX10_isIn_18 (tyZ (by first | exact Or.inl rfl | exact Or.inr rfl | exact tv_01 | assumption)) ⟨Nat.le_refl _, Nat.le_refl _⟩ (by first | exact ⟨(tv_n (by omega)).symm, rfl⟩ | exact ⟨(tv_1 (by omega)).symm, rfl⟩)
  ·
    rw [lcI_lt] at h3
    refine go_lload_n dX10_isIn_6 rfl ?_
    refine go_lload dX10_isIn_7 rfl ?_
    refine go_lcmp dX10_isIn_9 ?_
    refine go_if_gt (tgt := 17) dX10_isIn_10 rfl (fun h10 => ?_) (fun h10 => ?_)
    ·
      rw [lcI_gt] at h10
      refine go_iconst dX10_isIn_17 rfl ?_
      exact go_ri dX10_isIn_18 (tyZ (by first | exact Or.inl rfl | exact Or.inr rfl | exact tv_01 | assumption)) ⟨Nat.le_refl _, Nat.le_refl _⟩ (by first | exact ⟨(tv_n (by omega)).symm, rfl⟩ | exact ⟨(tv_1 (by omega)).symm, rfl⟩)
    ·
      rw [lcI_gt] at h10
      refine go_iconst dX10_isIn_13 rfl ?_
      refine go_goto (tgt := 18) dX10_isIn_14 rfl ?_
      exact go_ri dX10_isIn_18 (tyZ (by first | exact Or.inl rfl | exact Or.inr rfl | exact tv_01 | assumption)) ⟨Nat.le_refl _, Nat.le_refl _⟩ (by first | exact ⟨(tv_n (by omega)).symm, rfl⟩ | exact ⟨(tv_1 (by omega)).symm, rfl⟩)

set_option maxRecDepth 100000 in
set_option maxHeartbeats 4000000 in
theorem ct_X10_orNone {l : Launch} {D : va_G} {cA : Nat → ClassId} {μ : Mem} (v : Int) : CtN l D cA yX10_orNone cX10_orNone 1 (some .int) 0 [vi v] μ (Pi (fun x μ' => x = (if v < 0 then -1000000005 else v) ∧ μ' = μ)) := by
  refine Ct.of (own := RX10) (by decide +kernel) rfl (fun σ => Nat.le_of_ble_eq_true rfl) (fun hM hP ha => ?_)
  refine go_iload_n dX10_orNone_0 rfl ?_
  refine go_if_ge (tgt := 9) dX10_orNone_1 rfl (fun h1 => ?_) (fun h1 => ?_)
  ·
    refine go_iload_n dX10_orNone_9 rfl ?_
    exact go_ri dX10_orNone_10 tyI ⟨Nat.le_refl _, Nat.le_refl _⟩ (by first | exact ⟨(if_pos (by omega)).symm, rfl⟩ | exact ⟨(if_neg (by omega)).symm, rfl⟩)
  ·
    refine go_ldc dX10_orNone_4 kc_X10_86 rfl ?_
    refine go_goto (tgt := 10) dX10_orNone_6 rfl ?_
    exact go_ri dX10_orNone_10 tyI ⟨Nat.le_refl _, Nat.le_refl _⟩ (by first | exact ⟨(if_pos (by omega)).symm, rfl⟩ | exact ⟨(if_neg (by omega)).symm, rfl⟩)

set_option maxRecDepth 100000 in
set_option maxHeartbeats 4000000 in
theorem ct_X10_within {l : Launch} {D : va_G} {cA : Nat → ClassId} {μ : Mem} (v m : Int) (hm : 0 ≤ m) : CtN l D cA yX10_within cX10_within 2 (some .int) 0 [vi v, vi m] μ (Pi (fun x μ' => x = max 0 (min m v) ∧ μ' = μ)) := by
  refine Ct.of (own := RX10) (by decide +kernel) rfl (fun σ => Nat.le_of_ble_eq_true rfl) (fun hM hP ha => ?_)
  refine go_iload_n dX10_within_0 rfl ?_
  refine go_if_ge (tgt := 8) dX10_within_1 rfl (fun h1 => ?_) (fun h1 => ?_)
  ·
    refine go_iload_n dX10_within_8 rfl ?_
    refine go_iload_n dX10_within_9 rfl ?_
    refine go_icmp_le (tgt := 17) dX10_within_10 rfl (fun h10 => ?_) (fun h10 => ?_)
    ·
      refine go_iload_n dX10_within_17 rfl ?_
      exact go_ri dX10_within_18 tyI ⟨Nat.le_refl _, Nat.le_refl _⟩ (⟨by omega, rfl⟩)
    ·
      refine go_iload_n dX10_within_13 rfl ?_
      refine go_goto (tgt := 18) dX10_within_14 rfl ?_
      exact go_ri dX10_within_18 tyI ⟨Nat.le_refl _, Nat.le_refl _⟩ (⟨by omega, rfl⟩)
  ·
    refine go_iconst dX10_within_4 rfl ?_
    refine go_goto (tgt := 18) dX10_within_5 rfl ?_
    exact go_ri dX10_within_18 tyI ⟨Nat.le_refl _, Nat.le_refl _⟩ (⟨by omega, rfl⟩)

set_option maxRecDepth 100000 in
set_option maxHeartbeats 4000000 in
theorem ct_X10_becomes {l : Launch} {D : va_G} {cA : Nat → ClassId} {μ : Mem} (a v : Int) (h0 : 0 ≤ a) (h1 : a < 3122) : CtN l D cA yX10_becomes cX10_becomes 4 (some .int) 0 [vr 87, vi a, vi v] μ (Pi (fun x μ' => x = μ 88 a ∧ μ' = ud μ 88 a v)) := by
  refine Ct.of (own := RX10) (by decide +kernel) rfl (fun σ => Nat.le_of_ble_eq_true rfl) (fun hM hP ha => ?_)
  obtain ⟨m87, r88, s88, r89, s89, r90, s90, r91, s91, r92, s92, r93, s93, r94, s94, r95, s95, r96, s96, r97, s97, r98, s98, r99, s99, r100, s100, r101, s101, r102, s102, r103, s103, r104, s104, r105, s105, r106, s106, r107, s107, r108, s108, r109, s109, r110, s110, r111, s111, r112, s112⟩ := md_f
  refine go_aload_n dX10_becomes_0 rfl ?_
  refine go_getR dX10_becomes_1 fl_X10_7 (by first | assumption | exact Nat.le_of_ble_eq_true rfl) (by first | assumption | rfl) rfl (by first | assumption | rfl) ?_
  refine go_iload_n dX10_becomes_4 rfl ?_
  refine go_iaload dX10_becomes_5 (by first | assumption | exact Nat.le_of_ble_eq_true rfl) (by first | assumption | rfl) (by omega) (by omega) ?_
  refine go_istore_n dX10_becomes_6 rfl ?_
  refine go_aload_n dX10_becomes_7 rfl ?_
  refine go_getR dX10_becomes_8 fl_X10_7 (by first | assumption | exact Nat.le_of_ble_eq_true rfl) (by first | assumption | rfl) rfl (by first | assumption | rfl) ?_
  refine go_iload_n dX10_becomes_11 rfl ?_
  refine go_iload_n dX10_becomes_12 rfl ?_
  refine go_iastore dX10_becomes_13 (by first | assumption | exact Nat.le_of_ble_eq_true rfl) (by first | assumption | rfl) (by omega) (by omega) ?_
  refine go_iload_n dX10_becomes_14 rfl ?_
  exact go_ri dX10_becomes_15 tyI ⟨Nat.le_refl _, Nat.le_refl _⟩ (⟨rfl, rfl⟩)

set_option maxRecDepth 100000 in
set_option maxHeartbeats 4000000 in
theorem ct_X10_textAt {l : Launch} {D : va_G} {cA : Nat → ClassId} {μ : Mem} (t : Int) (h0 : 0 ≤ t) (h1 : t ≤ 14) : CtN l D cA yX10_textAt cX10_textAt 2 (some .int) 0 [vr 87, vi t] μ (Pi (fun x μ' => x = 122 + 200 * t ∧ μ' = μ)) := by
  refine Ct.of (own := RX10) (by decide +kernel) rfl (fun σ => Nat.le_of_ble_eq_true rfl) (fun hM hP ha => ?_)
  obtain ⟨m87, r88, s88, r89, s89, r90, s90, r91, s91, r92, s92, r93, s93, r94, s94, r95, s95, r96, s96, r97, s97, r98, s98, r99, s99, r100, s100, r101, s101, r102, s102, r103, s103, r104, s104, r105, s105, r106, s106, r107, s107, r108, s108, r109, s109, r110, s110, r111, s111, r112, s112⟩ := md_f
  refine go_bipush dX10_textAt_0 rfl (by decide) ?_
  refine go_sipush dX10_textAt_2 rfl (by decide) ?_
  refine go_iload_n dX10_textAt_5 rfl ?_
  refine go_imul dX10_textAt_6 ⟨by omega, by omega⟩ ?_
  refine go_iadd dX10_textAt_7 ⟨by omega, by omega⟩ ?_
  exact go_ri dX10_textAt_8 tyI ⟨Nat.le_refl _, Nat.le_refl _⟩ (⟨rfl, rfl⟩)

set_option maxRecDepth 100000 in
set_option maxHeartbeats 4000000 in
theorem ct_X10_of {l : Launch} {D : va_G} {cA : Nat → ClassId} {μ : Mem} (c w : Int) (h0 : 0 ≤ c) (h1 : c < 30) (h2 : 0 ≤ w) (h3 : w < 3) : CtN l D cA yX10_of cX10_of 3 (some .int) 0 [vr 87, vi c, vi w] μ (Pi (fun x μ' => x = μ 88 (8 + 3 * c + w) ∧ μ' = μ)) := by
  refine Ct.of (own := RX10) (by decide +kernel) rfl (fun σ => Nat.le_of_ble_eq_true rfl) (fun hM hP ha => ?_)
  obtain ⟨m87, r88, s88, r89, s89, r90, s90, r91, s91, r92, s92, r93, s93, r94, s94, r95, s95, r96, s96, r97, s97, r98, s98, r99, s99, r100, s100, r101, s101, r102, s102, r103, s103, r104, s104, r105, s105, r106, s106, r107, s107, r108, s108, r109, s109, r110, s110, r111, s111, r112, s112⟩ := md_f
  refine go_aload_n dX10_of_0 rfl ?_
  refine go_getR dX10_of_1 fl_X10_7 (by first | assumption | exact Nat.le_of_ble_eq_true rfl) (by first | assumption | rfl) rfl (by first | assumption | rfl) ?_
  refine go_bipush dX10_of_4 rfl (by decide) ?_
  refine go_iconst dX10_of_6 rfl ?_
  refine go_iload_n dX10_of_7 rfl ?_
  refine go_imul dX10_of_8 ⟨by omega, by omega⟩ ?_
  refine go_iadd dX10_of_9 ⟨by omega, by omega⟩ ?_
  refine go_iload_n dX10_of_10 rfl ?_
  refine go_iadd dX10_of_11 ⟨by omega, by omega⟩ ?_
  refine go_iaload dX10_of_12 (by first | assumption | exact Nat.le_of_ble_eq_true rfl) (by first | assumption | rfl) (by omega) (by omega) ?_
  exact go_ri dX10_of_13 tyI ⟨Nat.le_refl _, Nat.le_refl _⟩ (⟨rfl, rfl⟩)

set_option maxRecDepth 100000 in
set_option maxHeartbeats 4000000 in
theorem ct_X10_sets {l : Launch} {D : va_G} {cA : Nat → ClassId} {μ : Mem} (c w v : Int) (h0 : 0 ≤ c) (h1 : c < 30) (h2 : 0 ≤ w) (h3 : w < 3) : CtN l D cA yX10_sets cX10_sets 4 none 0 [vr 87, vi c, vi w, vi v] μ (Pv (fun μ' => μ' = ud μ 88 (8 + 3 * c + w) v)) := by
  refine Ct.of (own := RX10) (by decide +kernel) rfl (fun σ => Nat.le_of_ble_eq_true rfl) (fun hM hP ha => ?_)
  obtain ⟨m87, r88, s88, r89, s89, r90, s90, r91, s91, r92, s92, r93, s93, r94, s94, r95, s95, r96, s96, r97, s97, r98, s98, r99, s99, r100, s100, r101, s101, r102, s102, r103, s103, r104, s104, r105, s105, r106, s106, r107, s107, r108, s108, r109, s109, r110, s110, r111, s111, r112, s112⟩ := md_f
  refine go_aload_n dX10_sets_0 rfl ?_
  refine go_getR dX10_sets_1 fl_X10_7 (by first | assumption | exact Nat.le_of_ble_eq_true rfl) (by first | assumption | rfl) rfl (by first | assumption | rfl) ?_
  refine go_bipush dX10_sets_4 rfl (by decide) ?_
  refine go_iconst dX10_sets_6 rfl ?_
  refine go_iload_n dX10_sets_7 rfl ?_
  refine go_imul dX10_sets_8 ⟨by omega, by omega⟩ ?_
  refine go_iadd dX10_sets_9 ⟨by omega, by omega⟩ ?_
  refine go_iload_n dX10_sets_10 rfl ?_
  refine go_iadd dX10_sets_11 ⟨by omega, by omega⟩ ?_
  refine go_iload_n dX10_sets_12 rfl ?_
  refine go_iastore dX10_sets_13 (by first | assumption | exact Nat.le_of_ble_eq_true rfl) (by first | assumption | rfl) (by omega) (by omega) ?_
  exact go_rv dX10_sets_14 rfl ⟨Nat.le_refl _, Nat.le_refl _⟩ (rfl)

set_option maxRecDepth 100000 in
set_option maxHeartbeats 4000000 in
theorem ct_X10_isCell {l : Launch} {D : va_G} {cA : Nat → ClassId} {μ : Mem} (c : Int) : CtN l D cA yX10_isCell cX10_isCell 1 (some .boolean) 0 [vi c] μ (Pi (fun x μ' => x = tv (0 ≤ c ∧ c ≤ 29) inferInstance ∧ μ' = μ)) := by
  refine Ct.of (own := RX10) (by decide +kernel) rfl (fun σ => Nat.le_of_ble_eq_true rfl) (fun hM hP ha => ?_)
  refine go_iload_n dX10_isCell_0 rfl ?_
  refine go_if_lt (tgt := 14) dX10_isCell_1 rfl (fun h1 => ?_) (fun h1 => ?_)
  ·
    refine go_iconst dX10_isCell_14 rfl ?_
    exact go_ri dX10_isCell_15 (tyZ (by first | exact Or.inl rfl | exact Or.inr rfl | exact tv_01 | assumption)) ⟨Nat.le_refl _, Nat.le_refl _⟩ (by first | exact ⟨(tv_n (by omega)).symm, rfl⟩ | exact ⟨(tv_1 (by omega)).symm, rfl⟩)
  ·
    refine go_iload_n dX10_isCell_4 rfl ?_
    refine go_bipush dX10_isCell_5 rfl (by decide) ?_
    refine go_icmp_ge (tgt := 14) dX10_isCell_7 rfl (fun h7 => ?_) (fun h7 => ?_)
    ·
      refine go_iconst dX10_isCell_14 rfl ?_
      exact go_ri dX10_isCell_15 (tyZ (by first | exact Or.inl rfl | exact Or.inr rfl | exact tv_01 | assumption)) ⟨Nat.le_refl _, Nat.le_refl _⟩ (by first | exact ⟨(tv_n (by omega)).symm, rfl⟩ | exact ⟨(tv_1 (by omega)).symm, rfl⟩)
    ·
      refine go_iconst dX10_isCell_10 rfl ?_
      refine go_goto (tgt := 15) dX10_isCell_11 rfl ?_
      exact go_ri dX10_isCell_15 (tyZ (by first | exact Or.inl rfl | exact Or.inr rfl | exact tv_01 | assumption)) ⟨Nat.le_refl _, Nat.le_refl _⟩ (by first | exact ⟨(tv_n (by omega)).symm, rfl⟩ | exact ⟨(tv_1 (by omega)).symm, rfl⟩)

set_option maxRecDepth 100000 in
set_option maxHeartbeats 4000000 in
theorem ct_X10_isText {l : Launch} {D : va_G} {cA : Nat → ClassId} {μ : Mem} (hI : mdI (μ 88)) (t : Int) : CtN l D cA yX10_isText cX10_isText 2 (some .boolean) 2 [vr 87, vi t] μ (Pi (fun x μ' => x = tv (0 ≤ t ∧ t ≤ μ 88 1 - 1) inferInstance ∧ μ' = μ)) := by
  refine Ct.of (own := RX10) (by decide +kernel) rfl (fun σ => Nat.le_of_ble_eq_true rfl) (fun hM hP ha => ?_)
  obtain ⟨m87, r88, s88, r89, s89, r90, s90, r91, s91, r92, s92, r93, s93, r94, s94, r95, s95, r96, s96, r97, s97, r98, s98, r99, s99, r100, s100, r101, s101, r102, s102, r103, s103, r104, s104, r105, s105, r106, s106, r107, s107, r108, s108, r109, s109, r110, s110, r111, s111, r112, s112⟩ := md_f
  obtain ⟨iK, iS, iL, iT, iTn, iD, iH, iF, iX⟩ := md_b hI
  refine go_iload_n dX10_isText_0 rfl ?_
  refine go_i2l dX10_isText_1 ?_
  refine go_lconst dX10_isText_2 ?_
  refine go_aload_n dX10_isText_3 rfl ?_
  refine go_getR dX10_isText_4 fl_X10_7 (by first | assumption | exact Nat.le_of_ble_eq_true rfl) (by first | assumption | rfl) rfl (by first | assumption | rfl) ?_
  refine go_iconst dX10_isText_7 rfl ?_
  refine go_iaload dX10_isText_8 (by first | assumption | exact Nat.le_of_ble_eq_true rfl) (by first | assumption | rfl) (by omega) (by omega) ?_
  refine go_iconst dX10_isText_9 rfl ?_
  refine go_isub dX10_isText_10 ⟨by omega, by omega⟩ ?_
  refine go_i2l dX10_isText_11 ?_
  refine go_sI dX10_isText_12 (ct_X10_isIn _ _ _) ml_X10_87 mc_X10_isIn ms_X10_isIn ⟨rfl, rfl⟩ ⟨Nat.le_refl _, Nat.le_refl _⟩ rfl rfl rfl (fun x12 μ12 hc12 => ?_)
  obtain ⟨rfl, hm12⟩ := hc12
  rw [hm12]
  exact go_ri dX10_isText_15 (tyZ (by first | exact Or.inl rfl | exact Or.inr rfl | exact tv_01 | assumption)) ⟨Nat.le_refl _, Nat.le_refl _⟩ (⟨rfl, rfl⟩)

set_option maxRecDepth 100000 in
set_option maxHeartbeats 4000000 in
theorem ct_X10_isBound {l : Launch} {D : va_G} {cA : Nat → ClassId} {μ : Mem} (v : Int) : CtN l D cA yX10_isBound cX10_isBound 1 (some .boolean) 2 [vi v] μ (Pi (fun x μ' => x = tv (0 ≤ v ∧ v ≤ 99999) inferInstance ∧ μ' = μ)) := by
  refine Ct.of (own := RX10) (by decide +kernel) rfl (fun σ => Nat.le_of_ble_eq_true rfl) (fun hM hP ha => ?_)
  refine go_iload_n dX10_isBound_0 rfl ?_
  refine go_i2l dX10_isBound_1 ?_
  refine go_lconst dX10_isBound_2 ?_
  refine go_ldc2 dX10_isBound_3 kl_X10_195 rfl ?_
  refine go_sI dX10_isBound_6 (ct_X10_isIn _ _ _) ml_X10_87 mc_X10_isIn ms_X10_isIn ⟨rfl, rfl⟩ ⟨Nat.le_refl _, Nat.le_refl _⟩ rfl rfl rfl (fun x6 μ6 hc6 => ?_)
  obtain ⟨rfl, hm6⟩ := hc6
  rw [hm6]
  exact go_ri dX10_isBound_9 (tyZ (by first | exact Or.inl rfl | exact Or.inr rfl | exact tv_01 | assumption)) ⟨Nat.le_refl _, Nat.le_refl _⟩ (⟨rfl, rfl⟩)

set_option maxRecDepth 100000 in
set_option maxHeartbeats 4000000 in
theorem ct_X10_isSheet {l : Launch} {D : va_G} {cA : Nat → ClassId} {μ : Mem} (v : Int) : CtN l D cA yX10_isSheet cX10_isSheet 1 (some .boolean) 2 [vi v] μ (Pi (fun x μ' => x = tv (0 ≤ v ∧ v ≤ 3) inferInstance ∧ μ' = μ)) := by
  refine Ct.of (own := RX10) (by decide +kernel) rfl (fun σ => Nat.le_of_ble_eq_true rfl) (fun hM hP ha => ?_)
  refine go_iload_n dX10_isSheet_0 rfl ?_
  refine go_i2l dX10_isSheet_1 ?_
  refine go_lconst dX10_isSheet_2 ?_
  refine go_ldc2 dX10_isSheet_3 kl_X10_171 rfl ?_
  refine go_sI dX10_isSheet_6 (ct_X10_isIn _ _ _) ml_X10_87 mc_X10_isIn ms_X10_isIn ⟨rfl, rfl⟩ ⟨Nat.le_refl _, Nat.le_refl _⟩ rfl rfl rfl (fun x6 μ6 hc6 => ?_)
  obtain ⟨rfl, hm6⟩ := hc6
  rw [hm6]
  exact go_ri dX10_isSheet_9 (tyZ (by first | exact Or.inl rfl | exact Or.inr rfl | exact tv_01 | assumption)) ⟨Nat.le_refl _, Nat.le_refl _⟩ (⟨rfl, rfl⟩)

set_option maxRecDepth 100000 in
set_option maxHeartbeats 4000000 in
theorem ct_X10_isSlot {l : Launch} {D : va_G} {cA : Nat → ClassId} {μ : Mem} (v : Int) : CtN l D cA yX10_isSlot cX10_isSlot 1 (some .boolean) 2 [vi v] μ (Pi (fun x μ' => x = tv (0 ≤ v ∧ v ≤ 4) inferInstance ∧ μ' = μ)) := by
  refine Ct.of (own := RX10) (by decide +kernel) rfl (fun σ => Nat.le_of_ble_eq_true rfl) (fun hM hP ha => ?_)
  refine go_iload_n dX10_isSlot_0 rfl ?_
  refine go_i2l dX10_isSlot_1 ?_
  refine go_lconst dX10_isSlot_2 ?_
  refine go_ldc2 dX10_isSlot_3 kl_X10_190 rfl ?_
  refine go_sI dX10_isSlot_6 (ct_X10_isIn _ _ _) ml_X10_87 mc_X10_isIn ms_X10_isIn ⟨rfl, rfl⟩ ⟨Nat.le_refl _, Nat.le_refl _⟩ rfl rfl rfl (fun x6 μ6 hc6 => ?_)
  obtain ⟨rfl, hm6⟩ := hc6
  rw [hm6]
  exact go_ri dX10_isSlot_9 (tyZ (by first | exact Or.inl rfl | exact Or.inr rfl | exact tv_01 | assumption)) ⟨Nat.le_refl _, Nat.le_refl _⟩ (⟨rfl, rfl⟩)

set_option maxRecDepth 100000 in
set_option maxHeartbeats 4000000 in
theorem ct_X10_drawn {l : Launch} {D : va_G} {cA : Nat → ClassId} {μ : Mem} : CtN l D cA yX10_drawn cX10_drawn 1 (some .int) 0 [vr 87] μ (Pi (fun x μ' => x = dv (dz (μ 88 6)) ∧ μ' = ud μ 88 6 (dz (μ 88 6)))) := by
  refine Ct.of (own := RX10) (by decide +kernel) rfl (fun σ => Nat.le_of_ble_eq_true rfl) (fun hM hP ha => ?_)
  obtain ⟨m87, r88, s88, r89, s89, r90, s90, r91, s91, r92, s92, r93, s93, r94, s94, r95, s95, r96, s96, r97, s97, r98, s98, r99, s99, r100, s100, r101, s101, r102, s102, r103, s103, r104, s104, r105, s105, r106, s106, r107, s107, r108, s108, r109, s109, r110, s110, r111, s111, r112, s112⟩ := md_f
  refine go_aload_n dX10_drawn_0 rfl ?_
  refine go_getR dX10_drawn_1 fl_X10_7 (by first | assumption | exact Nat.le_of_ble_eq_true rfl) (by first | assumption | rfl) rfl (by first | assumption | rfl) ?_
  refine go_bipush dX10_drawn_4 rfl (by decide) ?_
  refine go_aload_n dX10_drawn_6 rfl ?_
  refine go_getR dX10_drawn_7 fl_X10_7 (by first | assumption | exact Nat.le_of_ble_eq_true rfl) (by first | assumption | rfl) rfl (by first | assumption | rfl) ?_
  refine go_bipush dX10_drawn_10 rfl (by decide) ?_
  refine go_iaload dX10_drawn_12 (by first | assumption | exact Nat.le_of_ble_eq_true rfl) (by first | assumption | rfl) (by omega) (by omega) ?_
  refine go_ldc dX10_drawn_13 kc_X10_91 rfl ?_
  refine go_imulw dX10_drawn_15 ?_
  refine go_sipush dX10_drawn_16 rfl (by decide) ?_
  refine go_iaddw dX10_drawn_19 ?_
  refine go_iastore dX10_drawn_20 (by first | assumption | exact Nat.le_of_ble_eq_true rfl) (by first | assumption | rfl) (by omega) (by omega) ?_
  refine go_aload_n dX10_drawn_21 rfl ?_
  refine go_getR dX10_drawn_22 fl_X10_7 (by first | assumption | exact Nat.le_of_ble_eq_true rfl) (by first | assumption | rfl) rfl (by first | assumption | rfl) ?_
  refine go_bipush dX10_drawn_25 rfl (by decide) ?_
  refine go_iaload dX10_drawn_27 (by first | assumption | exact Nat.le_of_ble_eq_true rfl) (by first | assumption | rfl) (by omega) (by omega) ?_
  try simp (disch := omega) only [ud, ua_same, ua_ne, uf_same, uf_ne]
  refine go_bipush dX10_drawn_28 rfl (by decide) ?_
  refine go_iushr dX10_drawn_30 ?_
  exact go_ri dX10_drawn_31 tyI ⟨Nat.le_refl _, Nat.le_refl _⟩ (⟨rfl, rfl⟩)

set_option maxRecDepth 100000 in
set_option maxHeartbeats 4000000 in
theorem ct_X10_sun {l : Launch} {D : va_G} {cA : Nat → ClassId} {μ : Mem} (h0 : 0 ≤ μ 88 3) (h1 : μ 88 3 ≤ 23) : CtN l D cA yX10_sun cX10_sun 1 (some .int) 0 [vr 87] μ (Pi (fun x μ' => x = sunV (μ 88 3) ∧ μ' = μ)) := by
  refine Ct.of (own := RX10) (by decide +kernel) rfl (fun σ => Nat.le_of_ble_eq_true rfl) (fun hM hP ha => ?_)
  obtain ⟨m87, r88, s88, r89, s89, r90, s90, r91, s91, r92, s92, r93, s93, r94, s94, r95, s95, r96, s96, r97, s97, r98, s98, r99, s99, r100, s100, r101, s101, r102, s102, r103, s103, r104, s104, r105, s105, r106, s106, r107, s107, r108, s108, r109, s109, r110, s110, r111, s111, r112, s112⟩ := md_f
  refine go_aload_n dX10_sun_0 rfl ?_
  refine go_getR dX10_sun_1 fl_X10_7 (by first | assumption | exact Nat.le_of_ble_eq_true rfl) (by first | assumption | rfl) rfl (by first | assumption | rfl) ?_
  refine go_iconst dX10_sun_4 rfl ?_
  refine go_iaload dX10_sun_5 (by first | assumption | exact Nat.le_of_ble_eq_true rfl) (by first | assumption | rfl) (by omega) (by omega) ?_
  refine go_bipush dX10_sun_6 rfl (by decide) ?_
  refine go_icmp_ge (tgt := 15) dX10_sun_8 rfl (fun h8 => ?_) (fun h8 => ?_)
  ·
    refine go_aload_n dX10_sun_15 rfl ?_
    refine go_getR dX10_sun_16 fl_X10_7 (by first | assumption | exact Nat.le_of_ble_eq_true rfl) (by first | assumption | rfl) rfl (by first | assumption | rfl) ?_
    refine go_iconst dX10_sun_19 rfl ?_
    refine go_iaload dX10_sun_20 (by first | assumption | exact Nat.le_of_ble_eq_true rfl) (by first | assumption | rfl) (by omega) (by omega) ?_
    refine go_bipush dX10_sun_21 rfl (by decide) ?_
    refine go_isub dX10_sun_23 ⟨by omega, by omega⟩ ?_
    exact go_ri dX10_sun_24 tyI ⟨Nat.le_refl _, Nat.le_refl _⟩ (⟨by unfold sunV; omega, rfl⟩)
  ·
    refine go_iconst dX10_sun_11 rfl ?_
    refine go_goto (tgt := 24) dX10_sun_12 rfl ?_
    exact go_ri dX10_sun_24 tyI ⟨Nat.le_refl _, Nat.le_refl _⟩ (⟨by unfold sunV; omega, rfl⟩)

set_option maxRecDepth 100000 in
set_option maxHeartbeats 4000000 in
theorem ct_X10_isOf {l : Launch} {D : va_G} {cA : Nat → ClassId} {μ : Mem} (k a : Int) : CtN l D cA yX10_isOf cX10_isOf 2 (some .boolean) 0 [vi k, vi a] μ (Pi (fun x μ' => x = tv (isUb k a = true) inferInstance ∧ μ' = μ)) := by
  refine Ct.of (own := RX10) (by decide +kernel) rfl (fun σ => Nat.le_of_ble_eq_true rfl) (fun hM hP ha => ?_)
  refine go_iload_n dX10_isOf_0 rfl ?_
  refine go_iload_n dX10_isOf_1 rfl ?_
  refine go_icmp_eq (tgt := 29) dX10_isOf_2 rfl (fun h2 => ?_) (fun h2 => ?_)
  ·
    refine go_iconst dX10_isOf_29 rfl ?_
    refine go_goto (tgt := 34) dX10_isOf_30 rfl ?_
    exact go_ri dX10_isOf_34 (tyZ (by first | exact Or.inl rfl | exact Or.inr rfl | exact tv_01 | assumption)) ⟨Nat.le_refl _, Nat.le_refl _⟩ (by first | exact ⟨(tv_n (by rw [isUb_iff]; unfold isU; omega)).symm, rfl⟩ | exact ⟨(tv_1 (by rw [isUb_iff]; unfold isU; omega)).symm, rfl⟩)
  ·
    refine go_iload_n dX10_isOf_5 rfl ?_
    first | refine go_bz (tgt := 29) dX10_isOf_6 rfl (fun h6 => ?_) (fun h6 => ?_) | refine go_if_eq (tgt := 29) dX10_isOf_6 rfl (fun h6 => ?_) (fun h6 => ?_)
    ·
      refine go_iconst dX10_isOf_29 rfl ?_
      refine go_goto (tgt := 34) dX10_isOf_30 rfl ?_
      exact go_ri dX10_isOf_34 (tyZ (by first | exact Or.inl rfl | exact Or.inr rfl | exact tv_01 | assumption)) ⟨Nat.le_refl _, Nat.le_refl _⟩ (by first | exact ⟨(tv_n (by rw [isUb_iff]; unfold isU; omega)).symm, rfl⟩ | exact ⟨(tv_1 (by rw [isUb_iff]; unfold isU; omega)).symm, rfl⟩)
    ·
      refine go_iload_n dX10_isOf_9 rfl ?_
      refine go_iconst dX10_isOf_10 rfl ?_
      refine go_icmp_ne (tgt := 19) dX10_isOf_11 rfl (fun h11 => ?_) (fun h11 => ?_)
      ·
        refine go_iload_n dX10_isOf_19 rfl ?_
        refine go_iconst dX10_isOf_20 rfl ?_
        refine go_icmp_ne (tgt := 33) dX10_isOf_21 rfl (fun h21 => ?_) (fun h21 => ?_)
        ·
          refine go_iconst dX10_isOf_33 rfl ?_
          exact go_ri dX10_isOf_34 (tyZ (by first | exact Or.inl rfl | exact Or.inr rfl | exact tv_01 | assumption)) ⟨Nat.le_refl _, Nat.le_refl _⟩ (by first | exact ⟨(tv_n (by rw [isUb_iff]; unfold isU; omega)).symm, rfl⟩ | exact ⟨(tv_1 (by rw [isUb_iff]; unfold isU; omega)).symm, rfl⟩)
        ·
          refine go_iload_n dX10_isOf_24 rfl ?_
          refine go_iconst dX10_isOf_25 rfl ?_
          refine go_icmp_ne (tgt := 33) dX10_isOf_26 rfl (fun h26 => ?_) (fun h26 => ?_)
          ·
            refine go_iconst dX10_isOf_33 rfl ?_
            exact go_ri dX10_isOf_34 (tyZ (by first | exact Or.inl rfl | exact Or.inr rfl | exact tv_01 | assumption)) ⟨Nat.le_refl _, Nat.le_refl _⟩ (by first | exact ⟨(tv_n (by rw [isUb_iff]; unfold isU; omega)).symm, rfl⟩ | exact ⟨(tv_1 (by rw [isUb_iff]; unfold isU; omega)).symm, rfl⟩)
          ·
            refine go_iconst dX10_isOf_29 rfl ?_
            refine go_goto (tgt := 34) dX10_isOf_30 rfl ?_
            exact go_ri dX10_isOf_34 (tyZ (by first | exact Or.inl rfl | exact Or.inr rfl | exact tv_01 | assumption)) ⟨Nat.le_refl _, Nat.le_refl _⟩ (by first | exact ⟨(tv_n (by rw [isUb_iff]; unfold isU; omega)).symm, rfl⟩ | exact ⟨(tv_1 (by rw [isUb_iff]; unfold isU; omega)).symm, rfl⟩)
      ·
        refine go_iload_n dX10_isOf_14 rfl ?_
        refine go_iconst dX10_isOf_15 rfl ?_
        refine go_icmp_eq (tgt := 29) dX10_isOf_16 rfl (fun h16 => ?_) (fun h16 => ?_)
        ·
          refine go_iconst dX10_isOf_29 rfl ?_
          refine go_goto (tgt := 34) dX10_isOf_30 rfl ?_
          exact go_ri dX10_isOf_34 (tyZ (by first | exact Or.inl rfl | exact Or.inr rfl | exact tv_01 | assumption)) ⟨Nat.le_refl _, Nat.le_refl _⟩ (by first | exact ⟨(tv_n (by rw [isUb_iff]; unfold isU; omega)).symm, rfl⟩ | exact ⟨(tv_1 (by rw [isUb_iff]; unfold isU; omega)).symm, rfl⟩)
        ·
          refine go_iload_n dX10_isOf_19 rfl ?_
          refine go_iconst dX10_isOf_20 rfl ?_
          refine go_icmp_ne (tgt := 33) dX10_isOf_21 rfl (fun h21 => ?_) (fun h21 => ?_)
          ·
            refine go_iconst dX10_isOf_33 rfl ?_
            exact go_ri dX10_isOf_34 (tyZ (by first | exact Or.inl rfl | exact Or.inr rfl | exact tv_01 | assumption)) ⟨Nat.le_refl _, Nat.le_refl _⟩ (by first | exact ⟨(tv_n (by rw [isUb_iff]; unfold isU; omega)).symm, rfl⟩ | exact ⟨(tv_1 (by rw [isUb_iff]; unfold isU; omega)).symm, rfl⟩)
          ·
            refine go_iload_n dX10_isOf_24 rfl ?_
            refine go_iconst dX10_isOf_25 rfl ?_
            refine go_icmp_ne (tgt := 33) dX10_isOf_26 rfl (fun h26 => ?_) (fun h26 => ?_)
            ·
              refine go_iconst dX10_isOf_33 rfl ?_
              exact go_ri dX10_isOf_34 (tyZ (by first | exact Or.inl rfl | exact Or.inr rfl | exact tv_01 | assumption)) ⟨Nat.le_refl _, Nat.le_refl _⟩ (by first | exact ⟨(tv_n (by rw [isUb_iff]; unfold isU; omega)).symm, rfl⟩ | exact ⟨(tv_1 (by rw [isUb_iff]; unfold isU; omega)).symm, rfl⟩)
            ·
              refine go_iconst dX10_isOf_29 rfl ?_
              refine go_goto (tgt := 34) dX10_isOf_30 rfl ?_
              exact go_ri dX10_isOf_34 (tyZ (by first | exact Or.inl rfl | exact Or.inr rfl | exact tv_01 | assumption)) ⟨Nat.le_refl _, Nat.le_refl _⟩ (by first | exact ⟨(tv_n (by rw [isUb_iff]; unfold isU; omega)).symm, rfl⟩ | exact ⟨(tv_1 (by rw [isUb_iff]; unfold isU; omega)).symm, rfl⟩)

/-- the i-th beside a cell; -1: there is none -/
def nbM (c i : Int) : Int := if nb c i = -1000000005 then -1 else nb c i
theorem nbM_r {c d : Int} (h0 : 0 ≤ c) (h1 : c < 30) : nbM c d = -1 ∧ nb c d = -1000000005 ∨ nbM c d = nb c d ∧ 0 ≤ nb c d ∧ nb c d < 30 := by
  unfold nbM
  rcases nb_r (d := d) h0 h1 with e | e
  · left; rw [if_pos e]; exact ⟨rfl, e⟩
  · right; rw [if_neg (by omega)]; exact ⟨rfl, e⟩

set_option maxRecDepth 100000 in
set_option maxHeartbeats 4000000 in
theorem ct_X10_beside {l : Launch} {D : va_G} {cA : Nat → ClassId} {μ : Mem} (c i : Int) (hc0 : 0 ≤ c) (hc1 : c < 30) (hi0 : 0 ≤ i) (hi1 : i < 4) : CtN l D cA yX10_beside cX10_beside 4 (some .int) 1 [vi c, vi i] μ (Pi (fun x μ' => x = nbM c i ∧ μ' = μ)) := by
  refine Ct.of (own := RX10) (by decide +kernel) rfl (fun σ => Nat.le_of_ble_eq_true rfl) (fun hM hP ha => ?_)
  refine go_iload_n dX10_beside_0 rfl ?_
  refine go_bipush dX10_beside_1 rfl (by decide) ?_
  refine go_irem dX10_beside_3 (by omega) (by omega) ?_
  refine go_istore_n dX10_beside_4 rfl ?_
  refine go_iload_n dX10_beside_5 rfl ?_
  first | refine go_bnz (tgt := 16) dX10_beside_6 rfl (fun h6 => ?_) (fun h6 => ?_) | refine go_if_ne (tgt := 16) dX10_beside_6 rfl (fun h6 => ?_) (fun h6 => ?_)
  ·
    refine go_iload_n dX10_beside_16 rfl ?_
    refine go_iconst dX10_beside_17 rfl ?_
    refine go_icmp_ne (tgt := 36) dX10_beside_18 rfl (fun h18 => ?_) (fun h18 => ?_)
    ·
      refine go_iload_n dX10_beside_36 rfl ?_
      refine go_iconst dX10_beside_37 rfl ?_
      refine go_icmp_ne (tgt := 48) dX10_beside_38 rfl (fun h38 => ?_) (fun h38 => ?_)
      ·
        refine go_iload_n dX10_beside_48 rfl ?_
        first | refine go_bnz (tgt := 56) dX10_beside_49 rfl (fun h49 => ?_) (fun h49 => ?_) | refine go_if_ne (tgt := 56) dX10_beside_49 rfl (fun h49 => ?_) (fun h49 => ?_)
        ·
          refine go_iload_n dX10_beside_56 rfl ?_
          refine go_iconst dX10_beside_57 rfl ?_
          refine go_isub dX10_beside_58 ⟨by omega, by omega⟩ ?_
          refine go_istore_n dX10_beside_59 rfl ?_
          refine go_iload_n dX10_beside_60 rfl ?_
          refine go_sI dX10_beside_61 (ct_X10_isCell _) ml_X10_116 mc_X10_isCell ms_X10_isCell ⟨rfl, rfl⟩ ⟨Nat.le_refl _, Nat.le_refl _⟩ rfl rfl rfl (fun x61 μ61 hc61 => ?_)
          obtain ⟨rfl, hm61⟩ := hc61
          rw [hm61]
          first | refine go_bz (tgt := 71) dX10_beside_64 rfl (fun h64 => ?_) (fun h64 => ?_) | refine go_if_eq (tgt := 71) dX10_beside_64 rfl (fun h64 => ?_) (fun h64 => ?_)
          ·
            refine go_iconst dX10_beside_71 rfl ?_
            exact go_ri dX10_beside_72 tyI ⟨Nat.le_refl _, Nat.le_refl _⟩ (⟨by unfold nbM nb nNONE; split <;> (try split) <;> (try split) <;> (try split) <;> (try split) <;> (try split) <;> omega, rfl⟩)
          ·
            refine go_iload_n dX10_beside_67 rfl ?_
            refine go_goto (tgt := 72) dX10_beside_68 rfl ?_
            exact go_ri dX10_beside_72 tyI ⟨Nat.le_refl _, Nat.le_refl _⟩ (⟨by unfold nbM nb nNONE; split <;> (try split) <;> (try split) <;> (try split) <;> (try split) <;> (try split) <;> omega, rfl⟩)
        ·
          refine go_iconst dX10_beside_52 rfl ?_
          refine go_goto (tgt := 59) dX10_beside_53 rfl ?_
          refine go_istore_n dX10_beside_59 rfl ?_
          refine go_iload_n dX10_beside_60 rfl ?_
          refine go_sI dX10_beside_61 (ct_X10_isCell _) ml_X10_116 mc_X10_isCell ms_X10_isCell ⟨rfl, rfl⟩ ⟨Nat.le_refl _, Nat.le_refl _⟩ rfl rfl rfl (fun x61 μ61 hc61 => ?_)
          obtain ⟨rfl, hm61⟩ := hc61
          rw [hm61]
          first | refine go_bz (tgt := 71) dX10_beside_64 rfl (fun h64 => ?_) (fun h64 => ?_) | refine go_if_eq (tgt := 71) dX10_beside_64 rfl (fun h64 => ?_) (fun h64 => ?_)
          ·
            refine go_iconst dX10_beside_71 rfl ?_
            exact go_ri dX10_beside_72 tyI ⟨Nat.le_refl _, Nat.le_refl _⟩ (⟨by unfold nbM nb nNONE; split <;> (try split) <;> (try split) <;> (try split) <;> (try split) <;> (try split) <;> omega, rfl⟩)
          ·
            refine go_iload_n dX10_beside_67 rfl ?_
            refine go_goto (tgt := 72) dX10_beside_68 rfl ?_
            exact go_ri dX10_beside_72 tyI ⟨Nat.le_refl _, Nat.le_refl _⟩ (⟨by unfold nbM nb nNONE; split <;> (try split) <;> (try split) <;> (try split) <;> (try split) <;> (try split) <;> omega, rfl⟩)
      ·
        refine go_iload_n dX10_beside_41 rfl ?_
        refine go_bipush dX10_beside_42 rfl (by decide) ?_
        refine go_isub dX10_beside_44 ⟨by omega, by omega⟩ ?_
        refine go_goto (tgt := 59) dX10_beside_45 rfl ?_
        refine go_istore_n dX10_beside_59 rfl ?_
        refine go_iload_n dX10_beside_60 rfl ?_
        refine go_sI dX10_beside_61 (ct_X10_isCell _) ml_X10_116 mc_X10_isCell ms_X10_isCell ⟨rfl, rfl⟩ ⟨Nat.le_refl _, Nat.le_refl _⟩ rfl rfl rfl (fun x61 μ61 hc61 => ?_)
        obtain ⟨rfl, hm61⟩ := hc61
        rw [hm61]
        first | refine go_bz (tgt := 71) dX10_beside_64 rfl (fun h64 => ?_) (fun h64 => ?_) | refine go_if_eq (tgt := 71) dX10_beside_64 rfl (fun h64 => ?_) (fun h64 => ?_)
        ·
          refine go_iconst dX10_beside_71 rfl ?_
          exact go_ri dX10_beside_72 tyI ⟨Nat.le_refl _, Nat.le_refl _⟩ (⟨by unfold nbM nb nNONE; split <;> (try split) <;> (try split) <;> (try split) <;> (try split) <;> (try split) <;> omega, rfl⟩)
        ·
          refine go_iload_n dX10_beside_67 rfl ?_
          refine go_goto (tgt := 72) dX10_beside_68 rfl ?_
          exact go_ri dX10_beside_72 tyI ⟨Nat.le_refl _, Nat.le_refl _⟩ (⟨by unfold nbM nb nNONE; split <;> (try split) <;> (try split) <;> (try split) <;> (try split) <;> (try split) <;> omega, rfl⟩)
    ·
      refine go_iload_n dX10_beside_21 rfl ?_
      refine go_iconst dX10_beside_22 rfl ?_
      refine go_icmp_ne (tgt := 30) dX10_beside_23 rfl (fun h23 => ?_) (fun h23 => ?_)
      ·
        refine go_iload_n dX10_beside_30 rfl ?_
        refine go_iconst dX10_beside_31 rfl ?_
        refine go_iadd dX10_beside_32 ⟨by omega, by omega⟩ ?_
        refine go_goto (tgt := 59) dX10_beside_33 rfl ?_
        refine go_istore_n dX10_beside_59 rfl ?_
        refine go_iload_n dX10_beside_60 rfl ?_
        refine go_sI dX10_beside_61 (ct_X10_isCell _) ml_X10_116 mc_X10_isCell ms_X10_isCell ⟨rfl, rfl⟩ ⟨Nat.le_refl _, Nat.le_refl _⟩ rfl rfl rfl (fun x61 μ61 hc61 => ?_)
        obtain ⟨rfl, hm61⟩ := hc61
        rw [hm61]
        first | refine go_bz (tgt := 71) dX10_beside_64 rfl (fun h64 => ?_) (fun h64 => ?_) | refine go_if_eq (tgt := 71) dX10_beside_64 rfl (fun h64 => ?_) (fun h64 => ?_)
        ·
          refine go_iconst dX10_beside_71 rfl ?_
          exact go_ri dX10_beside_72 tyI ⟨Nat.le_refl _, Nat.le_refl _⟩ (⟨by unfold nbM nb nNONE; split <;> (try split) <;> (try split) <;> (try split) <;> (try split) <;> (try split) <;> omega, rfl⟩)
        ·
          refine go_iload_n dX10_beside_67 rfl ?_
          refine go_goto (tgt := 72) dX10_beside_68 rfl ?_
          exact go_ri dX10_beside_72 tyI ⟨Nat.le_refl _, Nat.le_refl _⟩ (⟨by unfold nbM nb nNONE; split <;> (try split) <;> (try split) <;> (try split) <;> (try split) <;> (try split) <;> omega, rfl⟩)
      ·
        refine go_iconst dX10_beside_26 rfl ?_
        refine go_goto (tgt := 59) dX10_beside_27 rfl ?_
        refine go_istore_n dX10_beside_59 rfl ?_
        refine go_iload_n dX10_beside_60 rfl ?_
        refine go_sI dX10_beside_61 (ct_X10_isCell _) ml_X10_116 mc_X10_isCell ms_X10_isCell ⟨rfl, rfl⟩ ⟨Nat.le_refl _, Nat.le_refl _⟩ rfl rfl rfl (fun x61 μ61 hc61 => ?_)
        obtain ⟨rfl, hm61⟩ := hc61
        rw [hm61]
        first | refine go_bz (tgt := 71) dX10_beside_64 rfl (fun h64 => ?_) (fun h64 => ?_) | refine go_if_eq (tgt := 71) dX10_beside_64 rfl (fun h64 => ?_) (fun h64 => ?_)
        ·
          refine go_iconst dX10_beside_71 rfl ?_
          exact go_ri dX10_beside_72 tyI ⟨Nat.le_refl _, Nat.le_refl _⟩ (⟨by unfold nbM nb nNONE; split <;> (try split) <;> (try split) <;> (try split) <;> (try split) <;> (try split) <;> omega, rfl⟩)
        ·
          refine go_iload_n dX10_beside_67 rfl ?_
          refine go_goto (tgt := 72) dX10_beside_68 rfl ?_
          exact go_ri dX10_beside_72 tyI ⟨Nat.le_refl _, Nat.le_refl _⟩ (⟨by unfold nbM nb nNONE; split <;> (try split) <;> (try split) <;> (try split) <;> (try split) <;> (try split) <;> omega, rfl⟩)
  ·
    refine go_iload_n dX10_beside_9 rfl ?_
    refine go_bipush dX10_beside_10 rfl (by decide) ?_
    refine go_iadd dX10_beside_12 ⟨by omega, by omega⟩ ?_
    refine go_goto (tgt := 59) dX10_beside_13 rfl ?_
    refine go_istore_n dX10_beside_59 rfl ?_
    refine go_iload_n dX10_beside_60 rfl ?_
    refine go_sI dX10_beside_61 (ct_X10_isCell _) ml_X10_116 mc_X10_isCell ms_X10_isCell ⟨rfl, rfl⟩ ⟨Nat.le_refl _, Nat.le_refl _⟩ rfl rfl rfl (fun x61 μ61 hc61 => ?_)
    obtain ⟨rfl, hm61⟩ := hc61
    rw [hm61]
    first | refine go_bz (tgt := 71) dX10_beside_64 rfl (fun h64 => ?_) (fun h64 => ?_) | refine go_if_eq (tgt := 71) dX10_beside_64 rfl (fun h64 => ?_) (fun h64 => ?_)
    ·
      refine go_iconst dX10_beside_71 rfl ?_
      exact go_ri dX10_beside_72 tyI ⟨Nat.le_refl _, Nat.le_refl _⟩ (⟨by unfold nbM nb nNONE; split <;> (try split) <;> (try split) <;> (try split) <;> (try split) <;> (try split) <;> omega, rfl⟩)
    ·
      refine go_iload_n dX10_beside_67 rfl ?_
      refine go_goto (tgt := 72) dX10_beside_68 rfl ?_
      exact go_ri dX10_beside_72 tyI ⟨Nat.le_refl _, Nat.le_refl _⟩ (⟨by unfold nbM nb nNONE; split <;> (try split) <;> (try split) <;> (try split) <;> (try split) <;> (try split) <;> omega, rfl⟩)

set_option maxRecDepth 100000 in
set_option maxHeartbeats 4000000 in
theorem ct_X10_trackAt {l : Launch} {D : va_G} {cA : Nat → ClassId} {μ : Mem} (i : Int) (h0 : 0 ≤ i) (h1 : i < 24) : CtN l D cA yX10_trackAt cX10_trackAt 2 (some .int) 0 [vr 87, vi i] μ (Pi (fun x μ' => x = μ 88 (98 + i) ∧ μ' = μ)) := by
  refine Ct.of (own := RX10) (by decide +kernel) rfl (fun σ => Nat.le_of_ble_eq_true rfl) (fun hM hP ha => ?_)
  obtain ⟨m87, r88, s88, r89, s89, r90, s90, r91, s91, r92, s92, r93, s93, r94, s94, r95, s95, r96, s96, r97, s97, r98, s98, r99, s99, r100, s100, r101, s101, r102, s102, r103, s103, r104, s104, r105, s105, r106, s106, r107, s107, r108, s108, r109, s109, r110, s110, r111, s111, r112, s112⟩ := md_f
  refine go_aload_n dX10_trackAt_0 rfl ?_
  refine go_getR dX10_trackAt_1 fl_X10_7 (by first | assumption | exact Nat.le_of_ble_eq_true rfl) (by first | assumption | rfl) rfl (by first | assumption | rfl) ?_
  refine go_bipush dX10_trackAt_4 rfl (by decide) ?_
  refine go_iload_n dX10_trackAt_6 rfl ?_
  refine go_iadd dX10_trackAt_7 ⟨by omega, by omega⟩ ?_
  refine go_iaload dX10_trackAt_8 (by first | assumption | exact Nat.le_of_ble_eq_true rfl) (by first | assumption | rfl) (by omega) (by omega) ?_
  exact go_ri dX10_trackAt_9 tyI ⟨Nat.le_refl _, Nat.le_refl _⟩ (⟨rfl, rfl⟩)

theorem bs_no {c t : Int} (ht0 : 0 ≤ t) (hc0 : 0 ≤ c) (hc1 : c < 30) (h : ∀ d : Int, 0 ≤ d → d < 4 → nbM c d ≠ t) : ¬ bsd c t := by
  have e : ∀ d : Int, 0 ≤ d → d < 4 → nb c d ≠ t := fun d d0 d1 q => by
    have := h d d0 d1
    rcases nbM_r (d := d) hc0 hc1 with e | e <;> omega
  unfold bsd
  rintro (q | q | q | q)
  · exact e 0 (by omega) (by omega) q
  · exact e 1 (by omega) (by omega) q
  · exact e 2 (by omega) (by omega) q
  · exact e 3 (by omega) (by omega) q
theorem bs_yes {c t : Int} (ht0 : 0 ≤ t) (hc0 : 0 ≤ c) (hc1 : c < 30) (h : ∃ d : Int, 0 ≤ d ∧ d < 4 ∧ nbM c d = t) : bsd c t := by
  obtain ⟨d, d0, d1, q⟩ := h
  have q2 : nb c d = t := by rcases nbM_r (d := d) hc0 hc1 with e | e <;> omega
  unfold bsd
  rcases (by omega : d = 0 ∨ d = 1 ∨ d = 2 ∨ d = 3) with e | e | e | e <;> rw [e] at q2
  · exact Or.inl q2
  · exact Or.inr (Or.inl q2)
  · exact Or.inr (Or.inr (Or.inl q2))
  · exact Or.inr (Or.inr (Or.inr q2))

set_option maxRecDepth 100000 in
set_option maxHeartbeats 4000000 in
theorem ct_X10_isBeside {l : Launch} {D : va_G} {cA : Nat → ClassId} {μ : Mem} (c t : Int) (hc0 : 0 ≤ c) (hc1 : c < 30) (ht0 : 0 ≤ t) : CtN l D cA yX10_isBeside cX10_isBeside 4 (some .boolean) 2 [vi c, vi t] μ (Pi (fun x μ' => x = tv (bsdb c t = true) inferInstance ∧ μ' = μ)) := by
  refine Ct.of (own := RX10) (by decide +kernel) rfl (fun σ => Nat.le_of_ble_eq_true rfl) (fun hM hP ha => ?_)
  have loop : ∀ (m : Nat) (i : Int) (b : Int), 4 - i = (m : Nat) → 0 ≤ i → ((b = 0 ∧ ∀ d : Int, 0 ≤ d → d < i → nbM c d ≠ t) ∨ (b = 1 ∧ ∃ d : Int, 0 ≤ d ∧ d < 4 ∧ nbM c d = t)) → Go l D cA none RX10 cX10_isBeside 4 (some .boolean) (2, 0, 0) (QN (Pi (fun x μ' => x = tv (bsdb c t = true) inferInstance ∧ μ' = μ))) 113 ρ0 0 0 4 [(0, vi c), (1, vi t), (2, vi b), (3, vi i)] [] μ := by
    intro m
    induction m with
    | zero =>
      intro i b hm hv hb
      refine go_iload_n dX10_isBeside_4 rfl ?_
      refine go_iconst dX10_isBeside_5 rfl ?_
      refine go_icmp_ge (tgt := 34) dX10_isBeside_6 rfl (fun h6 => ?_) (fun h6 => ?_)
      ·
        have hb01 : b = 0 ∨ b = 1 := hb.elim (fun h => Or.inl h.1) (fun h => Or.inr h.1)
        refine go_iload_n dX10_isBeside_34 rfl ?_
        exact go_ri dX10_isBeside_35 (tyZ (by first | exact Or.inl rfl | exact Or.inr rfl | exact tv_01 | assumption)) ⟨Nat.le_refl _, Nat.le_refl _⟩ (by
            rcases hb with ⟨e, h⟩ | ⟨e, d, d0, d1, h⟩
            · exact ⟨by rw [e]; refine (tv_n ?_).symm; rw [bsdb_iff]; exact bs_no ht0 hc0 hc1 (fun d d0 d1 => h d d0 (by omega)), rfl⟩
            · exact ⟨by rw [e]; refine (tv_1 ?_).symm; rw [bsdb_iff]; exact bs_yes ht0 hc0 hc1 ⟨d, d0, d1, h⟩, rfl⟩)
      ·
        exact absurd h6 (by omega)
    | succ m ih =>
      intro i b hm hv hb
      refine go_iload_n dX10_isBeside_4 rfl ?_
      refine go_iconst dX10_isBeside_5 rfl ?_
      refine go_icmp_ge (tgt := 34) dX10_isBeside_6 rfl (fun h6 => ?_) (fun h6 => ?_)
      ·
        exact absurd h6 (by omega)
      ·
        refine go_iload_n dX10_isBeside_9 rfl ?_
        first | refine go_bnz (tgt := 22) dX10_isBeside_10 rfl (fun h10 => ?_) (fun h10 => ?_) | refine go_if_ne (tgt := 22) dX10_isBeside_10 rfl (fun h10 => ?_) (fun h10 => ?_)
        ·
          refine go_iconst dX10_isBeside_22 rfl ?_
          refine go_goto (tgt := 27) dX10_isBeside_23 rfl ?_
          refine go_istore_n dX10_isBeside_27 rfl ?_
          refine go_iinc dX10_isBeside_28 rfl rfl ⟨by omega, by omega⟩ ?_
          refine go_goto (tgt := 4) dX10_isBeside_31 rfl ?_
          refine go_drop (ih _ _ (by omega) (by omega) ?_) rfl
          rcases hb with ⟨e, h⟩ | ⟨e, h⟩
          · exact absurd e (by omega)
          · exact Or.inr ⟨rfl, h⟩
        ·
          refine go_iload_n dX10_isBeside_13 rfl ?_
          refine go_iload_n dX10_isBeside_14 rfl ?_
          refine go_sI dX10_isBeside_15 (ct_X10_beside _ _ (by omega) (by omega) (by omega) (by omega)) ml_X10_179 mc_X10_beside ms_X10_beside ⟨rfl, rfl⟩ ⟨Nat.le_refl _, Nat.le_refl _⟩ rfl rfl rfl (fun x15 μ15 hc15 => ?_)
          obtain ⟨rfl, hm15⟩ := hc15
          rw [hm15]
          refine go_iload_n dX10_isBeside_18 rfl ?_
          refine go_icmp_ne (tgt := 26) dX10_isBeside_19 rfl (fun h19 => ?_) (fun h19 => ?_)
          ·
            refine go_iconst dX10_isBeside_26 rfl ?_
            refine go_istore_n dX10_isBeside_27 rfl ?_
            refine go_iinc dX10_isBeside_28 rfl rfl ⟨by omega, by omega⟩ ?_
            refine go_goto (tgt := 4) dX10_isBeside_31 rfl ?_
            refine go_drop (ih _ _ (by omega) (by omega) ?_) rfl
            rcases hb with ⟨e, h⟩ | ⟨e, h⟩
            · refine Or.inl ⟨rfl, fun d d0 d1 => ?_⟩
              by_cases e2 : d = i
              · rw [e2]; exact h19
              · exact h d d0 (by omega)
            · exact absurd e (by omega)
          ·
            refine go_iconst dX10_isBeside_22 rfl ?_
            refine go_goto (tgt := 27) dX10_isBeside_23 rfl ?_
            refine go_istore_n dX10_isBeside_27 rfl ?_
            refine go_iinc dX10_isBeside_28 rfl rfl ⟨by omega, by omega⟩ ?_
            refine go_goto (tgt := 4) dX10_isBeside_31 rfl ?_
            refine go_drop (ih _ _ (by omega) (by omega) ?_) rfl
            exact Or.inr ⟨rfl, i, by omega, by omega, by omega⟩
  refine go_iconst dX10_isBeside_0 rfl ?_
  refine go_istore_n dX10_isBeside_1 rfl ?_
  refine go_iconst dX10_isBeside_2 rfl ?_
  refine go_istore_n dX10_isBeside_3 rfl ?_
  exact go_drop (loop 4 0 0 (by omega) (by omega) (Or.inl ⟨rfl, fun d d0 d1 => absurd d1 (by omega)⟩)) rfl

set_option maxRecDepth 100000 in
set_option maxHeartbeats 4000000 in
theorem ct_X10_joined {l : Launch} {D : va_G} {cA : Nat → ClassId} {μ : Mem} (c a b : Int) (hc : c = 124 ∨ c = 38 ∨ c = 60 ∨ c = 61 ∨ c = 62 ∨ c = 43 ∨ c = 45 ∨ c = 42 ∨ c = 47) : CtN l D cA yX10_joined cX10_joined 3 (some .int) 0 [vi c, vi a, vi b] μ (Pi (fun x μ' => x = joinI c a b ∧ μ' = μ)) := by
  refine Ct.of (own := RX10) (by decide +kernel) rfl (fun σ => Nat.le_of_ble_eq_true rfl) (fun hM hP ha => ?_)
  refine go_iload_n dX10_joined_0 rfl ?_
  refine go_case (38) (fun h1_38 => ?_) (fun h1_38 => ?_)
  ·
    refine go_tabIn (tgt := 183) dX10_joined_1 (by rw [h1_38]; decide) (by rw [h1_38]; decide) (by rw [h1_38]; try rfl) rfl ?_
    refine go_iload_n dX10_joined_183 rfl ?_
    first | refine go_bz (tgt := 195) dX10_joined_184 rfl (fun h184 => ?_) (fun h184 => ?_) | refine go_if_eq (tgt := 195) dX10_joined_184 rfl (fun h184 => ?_) (fun h184 => ?_)
    ·
      refine go_iconst dX10_joined_195 rfl ?_
      exact go_ri dX10_joined_196 tyI ⟨Nat.le_refl _, Nat.le_refl _⟩ (⟨by unfold joinI; simp [*], rfl⟩)
    ·
      refine go_iload_n dX10_joined_187 rfl ?_
      first | refine go_bz (tgt := 195) dX10_joined_188 rfl (fun h188 => ?_) (fun h188 => ?_) | refine go_if_eq (tgt := 195) dX10_joined_188 rfl (fun h188 => ?_) (fun h188 => ?_)
      ·
        refine go_iconst dX10_joined_195 rfl ?_
        exact go_ri dX10_joined_196 tyI ⟨Nat.le_refl _, Nat.le_refl _⟩ (⟨by unfold joinI; simp [*], rfl⟩)
      ·
        refine go_iconst dX10_joined_191 rfl ?_
        refine go_goto (tgt := 196) dX10_joined_192 rfl ?_
        exact go_ri dX10_joined_196 tyI ⟨Nat.le_refl _, Nat.le_refl _⟩ (⟨by unfold joinI; simp [*], rfl⟩)
  refine go_case (39) (fun h1_39 => ?_) (fun h1_39 => ?_)
  ·
    exact absurd hc (by omega)
  refine go_case (40) (fun h1_40 => ?_) (fun h1_40 => ?_)
  ·
    exact absurd hc (by omega)
  refine go_case (41) (fun h1_41 => ?_) (fun h1_41 => ?_)
  ·
    exact absurd hc (by omega)
  refine go_case (42) (fun h1_42 => ?_) (fun h1_42 => ?_)
  ·
    refine go_tabIn (tgt := 124) dX10_joined_1 (by rw [h1_42]; decide) (by rw [h1_42]; decide) (by rw [h1_42]; try rfl) rfl ?_
    refine go_iload_n dX10_joined_124 rfl ?_
    refine go_iload_n dX10_joined_125 rfl ?_
    refine go_imulw dX10_joined_126 ?_
    exact go_ri dX10_joined_127 tyI ⟨Nat.le_refl _, Nat.le_refl _⟩ (⟨by unfold joinI; simp [*], rfl⟩)
  refine go_case (43) (fun h1_43 => ?_) (fun h1_43 => ?_)
  ·
    refine go_tabIn (tgt := 116) dX10_joined_1 (by rw [h1_43]; decide) (by rw [h1_43]; decide) (by rw [h1_43]; try rfl) rfl ?_
    refine go_iload_n dX10_joined_116 rfl ?_
    refine go_iload_n dX10_joined_117 rfl ?_
    refine go_iaddw dX10_joined_118 ?_
    exact go_ri dX10_joined_119 tyI ⟨Nat.le_refl _, Nat.le_refl _⟩ (⟨by unfold joinI; simp [*], rfl⟩)
  refine go_case (44) (fun h1_44 => ?_) (fun h1_44 => ?_)
  ·
    exact absurd hc (by omega)
  refine go_case (45) (fun h1_45 => ?_) (fun h1_45 => ?_)
  ·
    refine go_tabIn (tgt := 120) dX10_joined_1 (by rw [h1_45]; decide) (by rw [h1_45]; decide) (by rw [h1_45]; try rfl) rfl ?_
    refine go_iload_n dX10_joined_120 rfl ?_
    refine go_iload_n dX10_joined_121 rfl ?_
    refine go_isubw dX10_joined_122 ?_
    exact go_ri dX10_joined_123 tyI ⟨Nat.le_refl _, Nat.le_refl _⟩ (⟨by unfold joinI; simp [*], rfl⟩)
  refine go_case (46) (fun h1_46 => ?_) (fun h1_46 => ?_)
  ·
    exact absurd hc (by omega)
  refine go_case (47) (fun h1_47 => ?_) (fun h1_47 => ?_)
  ·
    refine go_tabIn (tgt := 128) dX10_joined_1 (by rw [h1_47]; decide) (by rw [h1_47]; decide) (by rw [h1_47]; try rfl) rfl ?_
    refine go_iload_n dX10_joined_128 rfl ?_
    first | refine go_bnz (tgt := 136) dX10_joined_129 rfl (fun h129 => ?_) (fun h129 => ?_) | refine go_if_ne (tgt := 136) dX10_joined_129 rfl (fun h129 => ?_) (fun h129 => ?_)
    ·
      refine go_iload_n dX10_joined_136 rfl ?_
      refine go_iconst dX10_joined_137 rfl ?_
      refine go_icmp_ne (tgt := 146) dX10_joined_138 rfl (fun h138 => ?_) (fun h138 => ?_)
      ·
        refine go_iload_n dX10_joined_146 rfl ?_
        refine go_iload_n dX10_joined_147 rfl ?_
        refine go_idivw dX10_joined_148 (by omega) ?_
        exact go_ri dX10_joined_149 tyI ⟨Nat.le_refl _, Nat.le_refl _⟩ (⟨by unfold joinI; simp [*], rfl⟩)
      ·
        refine go_iload_n dX10_joined_141 rfl ?_
        refine go_ineg dX10_joined_142 ?_
        refine go_goto (tgt := 149) dX10_joined_143 rfl ?_
        exact go_ri dX10_joined_149 tyI ⟨Nat.le_refl _, Nat.le_refl _⟩ (⟨by unfold joinI; rw [h1_47, if_neg (by decide), if_neg (by decide), if_neg (by decide), if_neg (by decide), if_neg (by decide), if_neg (by decide), if_neg (by decide), if_neg (by decide), if_neg h129, h138]; rw [show Int.tdiv a (-1) = -a by rw [Int.tdiv_neg, Int.tdiv_one]], rfl⟩)
    ·
      refine go_iconst dX10_joined_132 rfl ?_
      refine go_goto (tgt := 149) dX10_joined_133 rfl ?_
      exact go_ri dX10_joined_149 tyI ⟨Nat.le_refl _, Nat.le_refl _⟩ (⟨by unfold joinI; simp [*], rfl⟩)
  refine go_case (48) (fun h1_48 => ?_) (fun h1_48 => ?_)
  ·
    exact absurd hc (by omega)
  refine go_case (49) (fun h1_49 => ?_) (fun h1_49 => ?_)
  ·
    exact absurd hc (by omega)
  refine go_case (50) (fun h1_50 => ?_) (fun h1_50 => ?_)
  ·
    exact absurd hc (by omega)
  refine go_case (51) (fun h1_51 => ?_) (fun h1_51 => ?_)
  ·
    exact absurd hc (by omega)
  refine go_case (52) (fun h1_52 => ?_) (fun h1_52 => ?_)
  ·
    exact absurd hc (by omega)
  refine go_case (53) (fun h1_53 => ?_) (fun h1_53 => ?_)
  ·
    exact absurd hc (by omega)
  refine go_case (54) (fun h1_54 => ?_) (fun h1_54 => ?_)
  ·
    exact absurd hc (by omega)
  refine go_case (55) (fun h1_55 => ?_) (fun h1_55 => ?_)
  ·
    exact absurd hc (by omega)
  refine go_case (56) (fun h1_56 => ?_) (fun h1_56 => ?_)
  ·
    exact absurd hc (by omega)
  refine go_case (57) (fun h1_57 => ?_) (fun h1_57 => ?_)
  ·
    exact absurd hc (by omega)
  refine go_case (58) (fun h1_58 => ?_) (fun h1_58 => ?_)
  ·
    exact absurd hc (by omega)
  refine go_case (59) (fun h1_59 => ?_) (fun h1_59 => ?_)
  ·
    exact absurd hc (by omega)
  refine go_case (60) (fun h1_60 => ?_) (fun h1_60 => ?_)
  ·
    refine go_tabIn (tgt := 150) dX10_joined_1 (by rw [h1_60]; decide) (by rw [h1_60]; decide) (by rw [h1_60]; try rfl) rfl ?_
    refine go_iload_n dX10_joined_150 rfl ?_
    refine go_iload_n dX10_joined_151 rfl ?_
    refine go_icmp_ge (tgt := 159) dX10_joined_152 rfl (fun h152 => ?_) (fun h152 => ?_)
    ·
      refine go_iconst dX10_joined_159 rfl ?_
      exact go_ri dX10_joined_160 tyI ⟨Nat.le_refl _, Nat.le_refl _⟩ (⟨by unfold joinI; simp [*], rfl⟩)
    ·
      refine go_iconst dX10_joined_155 rfl ?_
      refine go_goto (tgt := 160) dX10_joined_156 rfl ?_
      exact go_ri dX10_joined_160 tyI ⟨Nat.le_refl _, Nat.le_refl _⟩ (⟨by unfold joinI; simp [*], rfl⟩)
  refine go_case (61) (fun h1_61 => ?_) (fun h1_61 => ?_)
  ·
    refine go_tabIn (tgt := 172) dX10_joined_1 (by rw [h1_61]; decide) (by rw [h1_61]; decide) (by rw [h1_61]; try rfl) rfl ?_
    refine go_iload_n dX10_joined_172 rfl ?_
    refine go_iload_n dX10_joined_173 rfl ?_
    refine go_icmp_ne (tgt := 181) dX10_joined_174 rfl (fun h174 => ?_) (fun h174 => ?_)
    ·
      refine go_iconst dX10_joined_181 rfl ?_
      exact go_ri dX10_joined_182 tyI ⟨Nat.le_refl _, Nat.le_refl _⟩ (⟨by unfold joinI; simp [*], rfl⟩)
    ·
      refine go_iconst dX10_joined_177 rfl ?_
      refine go_goto (tgt := 182) dX10_joined_178 rfl ?_
      exact go_ri dX10_joined_182 tyI ⟨Nat.le_refl _, Nat.le_refl _⟩ (⟨by unfold joinI; simp [*], rfl⟩)
  refine go_case (62) (fun h1_62 => ?_) (fun h1_62 => ?_)
  ·
    refine go_tabIn (tgt := 161) dX10_joined_1 (by rw [h1_62]; decide) (by rw [h1_62]; decide) (by rw [h1_62]; try rfl) rfl ?_
    refine go_iload_n dX10_joined_161 rfl ?_
    refine go_iload_n dX10_joined_162 rfl ?_
    refine go_icmp_le (tgt := 170) dX10_joined_163 rfl (fun h163 => ?_) (fun h163 => ?_)
    ·
      refine go_iconst dX10_joined_170 rfl ?_
      exact go_ri dX10_joined_171 tyI ⟨Nat.le_refl _, Nat.le_refl _⟩ (⟨by unfold joinI; simp [*], rfl⟩)
    ·
      refine go_iconst dX10_joined_166 rfl ?_
      refine go_goto (tgt := 171) dX10_joined_167 rfl ?_
      exact go_ri dX10_joined_171 tyI ⟨Nat.le_refl _, Nat.le_refl _⟩ (⟨by unfold joinI; simp [*], rfl⟩)
  refine go_tabOut (tgt := 197) dX10_joined_1 (by omega) rfl ?_
  refine go_iload_n dX10_joined_197 rfl ?_
  first | refine go_bnz (tgt := 205) dX10_joined_198 rfl (fun h198 => ?_) (fun h198 => ?_) | refine go_if_ne (tgt := 205) dX10_joined_198 rfl (fun h198 => ?_) (fun h198 => ?_)
  ·
    refine go_iconst dX10_joined_205 rfl ?_
    refine go_goto (tgt := 210) dX10_joined_206 rfl ?_
    exact go_ri dX10_joined_210 tyI ⟨Nat.le_refl _, Nat.le_refl _⟩ (⟨by unfold joinI; rw [show c = 124 by omega]; simp [*], rfl⟩)
  ·
    refine go_iload_n dX10_joined_201 rfl ?_
    first | refine go_bz (tgt := 209) dX10_joined_202 rfl (fun h202 => ?_) (fun h202 => ?_) | refine go_if_eq (tgt := 209) dX10_joined_202 rfl (fun h202 => ?_) (fun h202 => ?_)
    ·
      refine go_iconst dX10_joined_209 rfl ?_
      exact go_ri dX10_joined_210 tyI ⟨Nat.le_refl _, Nat.le_refl _⟩ (⟨by unfold joinI; rw [show c = 124 by omega]; simp [*], rfl⟩)
    ·
      refine go_iconst dX10_joined_205 rfl ?_
      refine go_goto (tgt := 210) dX10_joined_206 rfl ?_
      exact go_ri dX10_joined_210 tyI ⟨Nat.le_refl _, Nat.le_refl _⟩ (⟨by unfold joinI; rw [show c = 124 by omega]; simp [*], rfl⟩)

def onM (o : Option Nat) : Int := match o with
  | none => -1
  | some i => (i : Nat)
theorem onM_s {keys : Nat → Int} {key : Int} {n : Nat} : onM (lastK keys key (n + 1)) = if keys n = key then ((n : Nat) : Int) else onM (lastK keys key n) := by
  show onM (if keys n = key then some n else lastK keys key n) = _
  split <;> rfl

set_option maxRecDepth 100000 in
set_option maxHeartbeats 4000000 in
theorem ct_X10_counts {l : Launch} {D : va_G} {cA : Nat → ClassId} {μ : Mem} (hT : tI (μ 88)) (key : Int) : CtN l D cA yX10_counts cX10_counts 4 (some .int) 1 [vr 87, vi key] μ (Pi (fun x μ' => x = onM (lastK (fun i => vm (μ 88) (4 + 2 * i) 0) key (μ 88 1).toNat) ∧ μ' = μ)) := by
  refine Ct.of (own := RX10) (by decide +kernel) rfl (fun σ => Nat.le_of_ble_eq_true rfl) (fun hM hP ha => ?_)
  obtain ⟨m87, r88, s88, r89, s89, r90, s90, r91, s91, r92, s92, r93, s93, r94, s94, r95, s95, r96, s96, r97, s97, r98, s98, r99, s99, r100, s100, r101, s101, r102, s102, r103, s103, r104, s104, r105, s105, r106, s106, r107, s107, r108, s108, r109, s109, r110, s110, r111, s111, r112, s112⟩ := md_f
  have iX := hT.1
  have loop : ∀ (m : Nat) (i : Int) (la : Int), (μ 88 1) - i = (m : Nat) → 0 ≤ i → (la = onM (lastK (fun i => vm (μ 88) (4 + 2 * i) 0) key i.toNat)) → Go l D cA none RX10 cX10_counts 4 (some .int) (1, 0, 0) (QN (Pi (fun x μ' => x = onM (lastK (fun i => vm (μ 88) (4 + 2 * i) 0) key (μ 88 1).toNat) ∧ μ' = μ))) 113 ρ0 0 0 4 [(0, vr 87), (1, vi key), (2, vi la), (3, vi i)] [] μ := by
    intro m
    induction m with
    | zero =>
      intro i la hm hv hla
      refine go_iload_n dX10_counts_4 rfl ?_
      refine go_aload_n dX10_counts_5 rfl ?_
      refine go_getR dX10_counts_6 fl_X10_7 (by first | assumption | exact Nat.le_of_ble_eq_true rfl) (by first | assumption | rfl) rfl (by first | assumption | rfl) ?_
      refine go_iconst dX10_counts_9 rfl ?_
      refine go_iaload dX10_counts_10 (by first | assumption | exact Nat.le_of_ble_eq_true rfl) (by first | assumption | rfl) (by omega) (by omega) ?_
      refine go_icmp_ge (tgt := 40) dX10_counts_11 rfl (fun h11 => ?_) (fun h11 => ?_)
      ·
        refine go_iload_n dX10_counts_40 rfl ?_
        exact go_ri dX10_counts_41 tyI ⟨Nat.le_refl _, Nat.le_refl _⟩ (⟨by rw [hla, show i.toNat = (μ 88 1).toNat by omega], rfl⟩)
      ·
        exact absurd h11 (by omega)
    | succ m ih =>
      intro i la hm hv hla
      refine go_iload_n dX10_counts_4 rfl ?_
      refine go_aload_n dX10_counts_5 rfl ?_
      refine go_getR dX10_counts_6 fl_X10_7 (by first | assumption | exact Nat.le_of_ble_eq_true rfl) (by first | assumption | rfl) rfl (by first | assumption | rfl) ?_
      refine go_iconst dX10_counts_9 rfl ?_
      refine go_iaload dX10_counts_10 (by first | assumption | exact Nat.le_of_ble_eq_true rfl) (by first | assumption | rfl) (by omega) (by omega) ?_
      refine go_icmp_ge (tgt := 40) dX10_counts_11 rfl (fun h11 => ?_) (fun h11 => ?_)
      ·
        exact absurd h11 (by omega)
      ·
        have hk : vm (μ 88) (4 + 2 * i.toNat) 0 = μ 88 (122 + 200 * i) := by rw [vm_lw (by omega) (by omega) (by omega), show 122 + 200 * ((i.toNat : Nat) : Int) + 0 = 122 + 200 * i by omega]
        refine go_aload_n dX10_counts_14 rfl ?_
        refine go_getR dX10_counts_15 fl_X10_7 (by first | assumption | exact Nat.le_of_ble_eq_true rfl) (by first | assumption | rfl) rfl (by first | assumption | rfl) ?_
        refine go_aload_n dX10_counts_18 rfl ?_
        refine go_iload_n dX10_counts_19 rfl ?_
        refine go_vI (ci := 9) dX10_counts_20 (ct_X10_textAt _ (by omega) (by omega)) ml_X10_304 mc_X10_textAt mv_X10_textAt rfl (by first | assumption | exact Nat.le_of_ble_eq_true rfl) (by first | assumption | rfl) rfl ⟨rfl, rfl⟩ ⟨Nat.le_refl _, Nat.le_refl _⟩ rfl rfl rfl (fun x20 μ20 hc20 => ?_)
        obtain ⟨rfl, hm20⟩ := hc20
        rw [hm20]
        refine go_iaload dX10_counts_23 (by first | assumption | exact Nat.le_of_ble_eq_true rfl) (by first | assumption | rfl) (by omega) (by omega) ?_
        try simp (disch := omega) only [ud, ua_same, ua_ne, uf_same, uf_ne]
        refine go_iload_n dX10_counts_24 rfl ?_
        refine go_icmp_ne (tgt := 32) dX10_counts_25 rfl (fun h25 => ?_) (fun h25 => ?_)
        ·
          refine go_iload_n dX10_counts_32 rfl ?_
          refine go_istore_n dX10_counts_33 rfl ?_
          refine go_iinc dX10_counts_34 rfl rfl ⟨by omega, by omega⟩ ?_
          refine go_goto (tgt := 4) dX10_counts_37 rfl ?_
          exact go_drop (ih _ _ (by omega) (by omega) (by rw [show (i + 1).toNat = i.toNat + 1 by omega, onM_s, hk, if_neg h25, hla])) rfl
        ·
          refine go_iload_n dX10_counts_28 rfl ?_
          refine go_goto (tgt := 33) dX10_counts_29 rfl ?_
          refine go_istore_n dX10_counts_33 rfl ?_
          refine go_iinc dX10_counts_34 rfl rfl ⟨by omega, by omega⟩ ?_
          refine go_goto (tgt := 4) dX10_counts_37 rfl ?_
          exact go_drop (ih _ _ (by omega) (by omega) (by rw [show (i + 1).toNat = i.toNat + 1 by omega, onM_s, hk, if_pos (by omega)]; omega)) rfl
  refine go_iconst dX10_counts_0 rfl ?_
  refine go_istore_n dX10_counts_1 rfl ?_
  refine go_iconst dX10_counts_2 rfl ?_
  refine go_istore_n dX10_counts_3 rfl ?_
  exact go_drop (loop (μ 88 1).toNat 0 (-1) (by omega) (by omega) rfl) rfl

set_option maxRecDepth 100000 in
set_option maxHeartbeats 4000000 in
theorem ct_X10_allLoad {l : Launch} {D : va_G} {cA : Nat → ClassId} {μ : Mem} (hL : lB (vm (μ 88) 35)) : CtN l D cA yX10_allLoad cX10_allLoad 3 (some .int) 1 [vr 87] μ (Pi (fun x μ' => x = sumN (vm (μ 88) 35) 30 ∧ μ' = μ)) := by
  refine Ct.of (own := RX10) (by decide +kernel) rfl (fun σ => Nat.le_of_ble_eq_true rfl) (fun hM hP ha => ?_)
  obtain ⟨m87, r88, s88, r89, s89, r90, s90, r91, s91, r92, s92, r93, s93, r94, s94, r95, s95, r96, s96, r97, s97, r98, s98, r99, s99, r100, s100, r101, s101, r102, s102, r103, s103, r104, s104, r105, s105, r106, s106, r107, s107, r108, s108, r109, s109, r110, s110, r111, s111, r112, s112⟩ := md_f
  have loop : ∀ (m : Nat) (i : Int) (acc : Int), 30 - i = (m : Nat) → 0 ≤ i → (acc = sumN (vm (μ 88) 35) i.toNat) → Go l D cA none RX10 cX10_allLoad 3 (some .int) (1, 0, 0) (QN (Pi (fun x μ' => x = sumN (vm (μ 88) 35) 30 ∧ μ' = μ))) 113 ρ0 0 0 4 [(0, vr 87), (1, vi acc), (2, vi i)] [] μ := by
    intro m
    induction m with
    | zero =>
      intro i acc hm hv hacc
      refine go_iload_n dX10_allLoad_4 rfl ?_
      refine go_bipush dX10_allLoad_5 rfl (by decide) ?_
      refine go_icmp_ge (tgt := 25) dX10_allLoad_7 rfl (fun h7 => ?_) (fun h7 => ?_)
      ·
        refine go_iload_n dX10_allLoad_25 rfl ?_
        exact go_ri dX10_allLoad_26 tyI ⟨Nat.le_refl _, Nat.le_refl _⟩ (⟨by rw [hacc, show i.toNat = 30 by omega], rfl⟩)
      ·
        exact absurd h7 (by omega)
    | succ m ih =>
      intro i acc hm hv hacc
      refine go_iload_n dX10_allLoad_4 rfl ?_
      refine go_bipush dX10_allLoad_5 rfl (by decide) ?_
      refine go_icmp_ge (tgt := 25) dX10_allLoad_7 rfl (fun h7 => ?_) (fun h7 => ?_)
      ·
        exact absurd h7 (by omega)
      ·
        have hb1 := hL i hv (by omega)
        have hb2 := sumN_b hL i.toNat (by omega)
        have he := vm_35 (f := μ 88) hv (by omega)
        refine go_iload_n dX10_allLoad_10 rfl ?_
        refine go_aload_n dX10_allLoad_11 rfl ?_
        refine go_iload_n dX10_allLoad_12 rfl ?_
        refine go_iconst dX10_allLoad_13 rfl ?_
        refine go_vI (ci := 9) dX10_allLoad_14 (ct_X10_of _ _ (by omega) (by omega) (by omega) (by omega)) ml_X10_92 mc_X10_of mv_X10_of rfl (by first | assumption | exact Nat.le_of_ble_eq_true rfl) (by first | assumption | rfl) rfl ⟨rfl, rfl⟩ ⟨Nat.le_refl _, Nat.le_refl _⟩ rfl rfl rfl (fun x14 μ14 hc14 => ?_)
        obtain ⟨rfl, hm14⟩ := hc14
        rw [hm14]
        try simp (disch := omega) only [ud, ua_same, ua_ne, uf_same, uf_ne]
        refine go_iadd dX10_allLoad_17 ⟨by omega, by omega⟩ ?_
        refine go_istore_n dX10_allLoad_18 rfl ?_
        refine go_iinc dX10_allLoad_19 rfl rfl ⟨by omega, by omega⟩ ?_
        refine go_goto (tgt := 4) dX10_allLoad_22 rfl ?_
        exact go_drop (ih _ _ (by omega) (by omega) (by rw [show (i + 1).toNat = i.toNat + 1 by omega, hacc]; show _ = sumN (vm (μ 88) 35) i.toNat + vm (μ 88) 35 ((i.toNat : Nat) : Int); rw [show ((i.toNat : Nat) : Int) = i by omega, he])) rfl
  refine go_iconst dX10_allLoad_0 rfl ?_
  refine go_istore_n dX10_allLoad_1 rfl ?_
  refine go_iconst dX10_allLoad_2 rfl ?_
  refine go_istore_n dX10_allLoad_3 rfl ?_
  exact go_drop (loop 30 0 0 (by omega) (by omega) rfl) rfl

set_option maxRecDepth 100000 in
set_option maxHeartbeats 4000000 in
theorem ct_X10_worth {l : Launch} {D : va_G} {cA : Nat → ClassId} {μ : Mem} (hI : mdI (μ 88)) (c : Int) (hc0 : 0 ≤ c) (hc1 : c < 30) : CtN l D cA yX10_worth cX10_worth 3 (some .int) 1 [vr 87, vi c] μ (Pi (fun x μ' => x = kWorth (vm (μ 88) 33 c) (vm (μ 88) 34 c) (vm (μ 88) 35 c) ∧ μ' = μ)) := by
  refine Ct.of (own := RX10) (by decide +kernel) rfl (fun σ => Nat.le_of_ble_eq_true rfl) (fun hM hP ha => ?_)
  obtain ⟨m87, r88, s88, r89, s89, r90, s90, r91, s91, r92, s92, r93, s93, r94, s94, r95, s95, r96, s96, r97, s97, r98, s98, r99, s99, r100, s100, r101, s101, r102, s102, r103, s103, r104, s104, r105, s105, r106, s106, r107, s107, r108, s108, r109, s109, r110, s110, r111, s111, r112, s112⟩ := md_f
  obtain ⟨iK, iS, iL, iT, iTn, iD, iH, iF, iX⟩ := md_b hI
  have hk := iK c hc0 hc1
  have hs := iS c hc0 hc1
  have hl := iL c hc0 hc1
  refine go_aload_n dX10_worth_0 rfl ?_
  refine go_iload_n dX10_worth_1 rfl ?_
  refine go_iconst dX10_worth_2 rfl ?_
  refine go_vI (ci := 9) dX10_worth_3 (ct_X10_of _ _ (by omega) (by omega) (by omega) (by omega)) ml_X10_92 mc_X10_of mv_X10_of rfl (by first | assumption | exact Nat.le_of_ble_eq_true rfl) (by first | assumption | rfl) rfl ⟨rfl, rfl⟩ ⟨Nat.le_refl _, Nat.le_refl _⟩ rfl rfl rfl (fun x3 μ3 hc3 => ?_)
  obtain ⟨rfl, hm3⟩ := hc3
  rw [hm3]
  try simp (disch := omega) only [ud, ua_same, ua_ne, uf_same, uf_ne]
  refine go_istore_n dX10_worth_6 rfl ?_
  refine go_aload_n dX10_worth_7 rfl ?_
  refine go_iload_n dX10_worth_8 rfl ?_
  refine go_iconst dX10_worth_9 rfl ?_
  refine go_vI (ci := 9) dX10_worth_10 (ct_X10_of _ _ (by omega) (by omega) (by omega) (by omega)) ml_X10_92 mc_X10_of mv_X10_of rfl (by first | assumption | exact Nat.le_of_ble_eq_true rfl) (by first | assumption | rfl) rfl ⟨rfl, rfl⟩ ⟨Nat.le_refl _, Nat.le_refl _⟩ rfl rfl rfl (fun x10 μ10 hc10 => ?_)
  obtain ⟨rfl, hm10⟩ := hc10
  rw [hm10]
  try simp (disch := omega) only [ud, ua_same, ua_ne, uf_same, uf_ne]
  refine go_case (1) (fun h13_1 => ?_) (fun h13_1 => ?_)
  ·
    refine go_tabIn (tgt := 48) dX10_worth_13 (by rw [h13_1]; decide) (by rw [h13_1]; decide) (by rw [h13_1]; try rfl) rfl ?_
    refine go_iload_n dX10_worth_48 rfl ?_
    refine go_aload_n dX10_worth_49 rfl ?_
    refine go_iload_n dX10_worth_50 rfl ?_
    refine go_iconst dX10_worth_51 rfl ?_
    refine go_vI (ci := 9) dX10_worth_52 (ct_X10_of _ _ (by omega) (by omega) (by omega) (by omega)) ml_X10_92 mc_X10_of mv_X10_of rfl (by first | assumption | exact Nat.le_of_ble_eq_true rfl) (by first | assumption | rfl) rfl ⟨rfl, rfl⟩ ⟨Nat.le_refl _, Nat.le_refl _⟩ rfl rfl rfl (fun x52 μ52 hc52 => ?_)
    obtain ⟨rfl, hm52⟩ := hc52
    rw [hm52]
    try simp (disch := omega) only [ud, ua_same, ua_ne, uf_same, uf_ne]
    refine go_iadd dX10_worth_55 ⟨by omega, by omega⟩ ?_
    exact go_ri dX10_worth_56 tyI ⟨Nat.le_refl _, Nat.le_refl _⟩ (⟨by rw [vm_33 hc0 hc1, vm_34 hc0 hc1, vm_35 hc0 hc1]; unfold kWorth; (repeat (first | rw [if_pos (by omega)] | rw [if_neg (by omega)])), rfl⟩)
  refine go_case (2) (fun h13_2 => ?_) (fun h13_2 => ?_)
  ·
    refine go_tabIn (tgt := 57) dX10_worth_13 (by rw [h13_2]; decide) (by rw [h13_2]; decide) (by rw [h13_2]; try rfl) rfl ?_
    refine go_bipush dX10_worth_57 rfl (by decide) ?_
    refine go_iload_n dX10_worth_59 rfl ?_
    refine go_isub dX10_worth_60 ⟨by omega, by omega⟩ ?_
    exact go_ri dX10_worth_61 tyI ⟨Nat.le_refl _, Nat.le_refl _⟩ (⟨by rw [vm_33 hc0 hc1, vm_34 hc0 hc1, vm_35 hc0 hc1]; unfold kWorth; (repeat (first | rw [if_pos (by omega)] | rw [if_neg (by omega)])), rfl⟩)
  refine go_case (3) (fun h13_3 => ?_) (fun h13_3 => ?_)
  ·
    refine go_tabIn (tgt := 62) dX10_worth_13 (by rw [h13_3]; decide) (by rw [h13_3]; decide) (by rw [h13_3]; try rfl) rfl ?_
    refine go_iconst dX10_worth_62 rfl ?_
    refine go_iload_n dX10_worth_63 rfl ?_
    refine go_aload_n dX10_worth_64 rfl ?_
    refine go_iload_n dX10_worth_65 rfl ?_
    refine go_iconst dX10_worth_66 rfl ?_
    refine go_vI (ci := 9) dX10_worth_67 (ct_X10_of _ _ (by omega) (by omega) (by omega) (by omega)) ml_X10_92 mc_X10_of mv_X10_of rfl (by first | assumption | exact Nat.le_of_ble_eq_true rfl) (by first | assumption | rfl) rfl ⟨rfl, rfl⟩ ⟨Nat.le_refl _, Nat.le_refl _⟩ rfl rfl rfl (fun x67 μ67 hc67 => ?_)
    obtain ⟨rfl, hm67⟩ := hc67
    rw [hm67]
    try simp (disch := omega) only [ud, ua_same, ua_ne, uf_same, uf_ne]
    refine go_iadd dX10_worth_70 ⟨by omega, by omega⟩ ?_
    refine go_imul dX10_worth_71 ⟨by omega, by omega⟩ ?_
    exact go_ri dX10_worth_72 tyI ⟨Nat.le_refl _, Nat.le_refl _⟩ (⟨by rw [vm_33 hc0 hc1, vm_34 hc0 hc1, vm_35 hc0 hc1]; unfold kWorth; (repeat (first | rw [if_pos (by omega)] | rw [if_neg (by omega)])), rfl⟩)
  refine go_case (4) (fun h13_4 => ?_) (fun h13_4 => ?_)
  ·
    refine go_tabIn (tgt := 73) dX10_worth_13 (by rw [h13_4]; decide) (by rw [h13_4]; decide) (by rw [h13_4]; try rfl) rfl ?_
    refine go_bipush dX10_worth_73 rfl (by decide) ?_
    refine go_iload_n dX10_worth_75 rfl ?_
    refine go_isub dX10_worth_76 ⟨by omega, by omega⟩ ?_
    exact go_ri dX10_worth_77 tyI ⟨Nat.le_refl _, Nat.le_refl _⟩ (⟨by rw [vm_33 hc0 hc1, vm_34 hc0 hc1, vm_35 hc0 hc1]; unfold kWorth; (repeat (first | rw [if_pos (by omega)] | rw [if_neg (by omega)])), rfl⟩)
  refine go_case (5) (fun h13_5 => ?_) (fun h13_5 => ?_)
  ·
    refine go_tabIn (tgt := 78) dX10_worth_13 (by rw [h13_5]; decide) (by rw [h13_5]; decide) (by rw [h13_5]; try rfl) rfl ?_
    refine go_aload_n dX10_worth_78 rfl ?_
    refine go_iload_n dX10_worth_79 rfl ?_
    refine go_iconst dX10_worth_80 rfl ?_
    refine go_vI (ci := 9) dX10_worth_81 (ct_X10_of _ _ (by omega) (by omega) (by omega) (by omega)) ml_X10_92 mc_X10_of mv_X10_of rfl (by first | assumption | exact Nat.le_of_ble_eq_true rfl) (by first | assumption | rfl) rfl ⟨rfl, rfl⟩ ⟨Nat.le_refl _, Nat.le_refl _⟩ rfl rfl rfl (fun x81 μ81 hc81 => ?_)
    obtain ⟨rfl, hm81⟩ := hc81
    rw [hm81]
    try simp (disch := omega) only [ud, ua_same, ua_ne, uf_same, uf_ne]
    exact go_ri dX10_worth_84 tyI ⟨Nat.le_refl _, Nat.le_refl _⟩ (⟨by rw [vm_33 hc0 hc1, vm_34 hc0 hc1, vm_35 hc0 hc1]; unfold kWorth; (repeat (first | rw [if_pos (by omega)] | rw [if_neg (by omega)])), rfl⟩)
  refine go_tabOut (tgt := 85) dX10_worth_13 (by omega) rfl ?_
  refine go_iload_n dX10_worth_85 rfl ?_
  exact go_ri dX10_worth_86 tyI ⟨Nat.le_refl _, Nat.le_refl _⟩ (⟨by rw [vm_33 hc0 hc1, vm_34 hc0 hc1, vm_35 hc0 hc1]; unfold kWorth; (repeat (first | rw [if_pos (by omega)] | rw [if_neg (by omega)])), rfl⟩)

