/-! THE WORLD as it stands once both are made: which number refers to which; contracts over it -/
def rfM (k : Nat) : Option Nat := [some 88, some 89, some 90, none, some 91, some 92, some 93, some 94, some 95, some 96, some 97, some 98, some 99, some 100, some 101, some 102, some 103, some 104, some 105, some 106, some 107, none, none, none, none, none, none, none, none, none, none, none, some 108, some 109, some 110, some 111, none, some 112].getD k none
def rfC (k : Nat) : Option Nat := [some 1, some 32, some 39, some 46, some 53, some 56, some 58, some 61, some 70, some 86].getD k none
def ρ0 : RefM := fun i k =>
  if k < 0 then none
  else if i = 0 then rfC k.toNat
  else if i = 1 then [some 2, some 3].getD k.toNat none
  else if i = 2 then (if k < 14 then some (4 + 2 * k.toNat) else none)
  else if i < 32 then (if k = 3 then some (i + 1) else none)
  else if i = 32 ∨ i = 39 ∨ i = 46 then (if k = 0 then some 1 else if k < 7 then some (i + k.toNat) else none)
  else if i = 53 then [some 54, some 55].getD k.toNat none
  else if i = 56 then (if k = 0 then some 57 else none)
  else if i = 58 then [some 56, some 59].getD k.toNat none
  else if i = 59 then (if k = 3 then some 60 else none)
  else if i = 61 then (if k < 4 then some (62 + 2 * k.toNat) else none)
  else if i = 70 then (if k < 5 then some (71 + 3 * k.toNat) else none)
  else if i < 87 then (if shp i = (5, 6) then (if k = 5 then some (i + 1) else none) else if k = 2 then some (i + 1) else none)
  else if i = 87 then rfM k.toNat
  else none
def isMt (M : Nat) : Prop := M = 32 ∨ M = 39 ∨ M = 46
theorem mt_f {M : Nat} (h : isMt M) : 32 ≤ M ∧ M + 6 < 53 ∧ M < 113 ∧ M + 1 < 113 ∧ M + 2 < 113 ∧ M + 3 < 113 ∧ M + 4 < 113 ∧ M + 5 < 113 ∧ M + 6 < 113 ∧ shp M = (2, 14) ∧ shp (M + 1) = (20, 30) ∧ shp (M + 2) = (20, 30) ∧ shp (M + 3) = (20, 30) ∧ shp (M + 4) = (20, 24) ∧ shp (M + 5) = (20, 30) ∧ shp (M + 6) = (20, 30) ∧ ρ0 M (0 : Nat) = some 1 ∧ ρ0 M (1 : Nat) = some (M + 1) ∧ ρ0 M (2 : Nat) = some (M + 2) ∧ ρ0 M (3 : Nat) = some (M + 3) ∧ ρ0 M (4 : Nat) = some (M + 4) ∧ ρ0 M (5 : Nat) = some (M + 5) ∧ ρ0 M (6 : Nat) = some (M + 6) := by
  rcases h with rfl | rfl | rfl <;> decide +kernel
def isLw (j : Nat) : Prop := (4 ≤ j ∧ j < 32 ∧ j % 2 = 0) ∨ j = 59
theorem lw_f {j : Nat} (h : isLw j) : 4 ≤ j ∧ j < 60 ∧ j < 113 ∧ j + 1 < 113 ∧ shp j = (0, 4) ∧ shp (j + 1) = (20, 96) ∧ ρ0 j (3 : Nat) = some (j + 1) := by
  have h2 : j ∈ [4, 6, 8, 10, 12, 14, 16, 18, 20, 22, 24, 26, 28, 30, 59] := by
    simp only [List.mem_cons, List.not_mem_nil, or_false]; unfold isLw at h; omega
  exact (by decide +kernel : ∀ j ∈ [4, 6, 8, 10, 12, 14, 16, 18, 20, 22, 24, 26, 28, 30, 59], 4 ≤ j ∧ j < 60 ∧ j < 113 ∧ j + 1 < 113 ∧ shp j = (0, 4) ∧ shp (j + 1) = (20, 96) ∧ ρ0 j (3 : Nat) = some (j + 1)) j h2
def isSh (j : Nat) : Prop := (62 ≤ j ∧ j < 70 ∧ j % 2 = 0) ∨ (72 ≤ j ∧ j < 86 ∧ j % 3 = 0)
theorem sh_f {j : Nat} (h : isSh j) : 62 ≤ j ∧ j < 86 ∧ j < 113 ∧ j + 1 < 113 ∧ shp j = (4, 3) ∧ shp (j + 1) = (20, 24) ∧ ρ0 j (2 : Nat) = some (j + 1) := by
  have h2 : j ∈ [62, 64, 66, 68, 72, 75, 78, 81, 84] := by
    simp only [List.mem_cons, List.not_mem_nil, or_false]; unfold isSh at h; omega
  exact (by decide +kernel : ∀ j ∈ [62, 64, 66, 68, 72, 75, 78, 81, 84], 62 ≤ j ∧ j < 86 ∧ j < 113 ∧ j + 1 < 113 ∧ shp j = (4, 3) ∧ shp (j + 1) = (20, 24) ∧ ρ0 j (2 : Nat) = some (j + 1)) j h2
def isSl (j : Nat) : Prop := 71 ≤ j ∧ j < 86 ∧ j % 3 = 2
theorem sl_f {j : Nat} (h : isSl j) : 71 ≤ j ∧ j < 86 ∧ j < 113 ∧ j + 1 < 113 ∧ shp j = (5, 6) ∧ shp (j + 1) = (4, 3) ∧ ρ0 j (5 : Nat) = some (j + 1) := by
  have h2 : j ∈ [71, 74, 77, 80, 83] := by
    simp only [List.mem_cons, List.not_mem_nil, or_false]; unfold isSl at h; omega
  exact (by decide +kernel : ∀ j ∈ [71, 74, 77, 80, 83], 71 ≤ j ∧ j < 86 ∧ j < 113 ∧ j + 1 < 113 ∧ shp j = (5, 6) ∧ shp (j + 1) = (4, 3) ∧ ρ0 j (5 : Nat) = some (j + 1)) j h2
abbrev QN (P : Option AV → Mem → Prop) : QT := fun r n ρ μ => n = 113 ∧ ρ = ρ0 ∧ P r μ
abbrev Pi (p : Int → Mem → Prop) : Option AV → Mem → Prop := fun r μ' => ∃ x, r = some (vi x) ∧ p x μ'
abbrev Pl (p : Int → Mem → Prop) : Option AV → Mem → Prop := fun r μ' => ∃ x, r = some (vl x) ∧ p x μ'
abbrev Pv (p : Mem → Prop) : Option AV → Mem → Prop := fun r μ' => r = none ∧ p μ'
abbrev CtN (l : Launch) (D : va_G) (cA : Nat → ClassId) (y : MethodName) (cc : ByteArray) (nL : Nat) (rt : Option FieldType) (d : Nat) (args : List AV) (μ : Mem) (P : Option AV → Mem → Prop) : Prop := Ct l D cA y cc nL rt (d, 0, 0) 113 ρ0 args μ (QN P)
section World
variable {l : Launch} {D : va_G} {cA : Nat → ClassId} {X : XT} {own : String} {cc : ByteArray} {nL : Nat} {rt : Option FieldType} {B : Nat × Nat × Nat} {Qa : QT} {P : Option AV → Mem → Prop} {k z pc : Nat} {L : List (Nat × AV)} {st : List AV} {μ : Mem}
theorem go_sI {index nL' na d' : Nat} {y : MethodName} {cc' : ByteArray} {rt' : Option FieldType} {p : Int → Mem → Prop} {as stk : List AV} (d : decode cc pc = .ok (.invokestatic index, 3)) (hc : CtN l D cA y cc' nL' rt' d' as μ (Pi p)) (hl : ML own index y) (hm : MC y cc' nL' rt' na) (hsv : Cond.static y ∈ TB) (hb : Nat.ble (d' + 1) B.1 = true ∧ Nat.ble nL' 21 = true) (hf : k ≤ B.2.1 ∧ z ≤ B.2.2) (hst : stk = as.reverse ++ st) (hcat : Nat.ble (st.map cat).sum 8 = true) (hlen : as.length = na) (kk : ∀ x μ', p x μ' → Go l D cA X own cc nL rt B Qa 113 ρ0 k z (pc + 3) L (vi x :: st) μ') : Go l D cA X own cc nL rt B Qa 113 ρ0 k z pc L stk μ :=
  go_static d hc hl hm hsv hb hf hst hcat hlen (fun r n' ρ' μ' hq _ => by obtain ⟨rfl, rfl, x, rfl, hp⟩ := hq; exact kk x μ' hp)
theorem go_vI {index nL' na d' i ci N : Nat} {T : u_T} {y : MethodName} {cc' : ByteArray} {rt' : Option FieldType} {p : Int → Mem → Prop} {as stk : List AV} (d : decode cc pc = .ok (.invokevirtual index, 3)) (hc : CtN l D cA y cc' nL' rt' d' (vr i :: as) μ (Pi p)) (hl : ML own index y) (hm : MC y cc' nL' rt' na) (hsv : Cond.instanceMethod y ∈ TB ∧ Cond.selects y.cls y y ∈ TB) (hcl : vwCl[ci]? = some (y.cls, T, N)) (hi : i < 113) (hs : shp i = (ci, N)) (hci : Nat.blt ci 20 = true) (hb : Nat.ble (d' + 1) B.1 = true ∧ Nat.ble nL' 21 = true) (hf : k ≤ B.2.1 ∧ z ≤ B.2.2) (hst : stk = as.reverse ++ vr i :: st) (hcat : Nat.ble (st.map cat).sum 8 = true) (hlen : as.length = na) (kk : ∀ x μ', p x μ' → Go l D cA X own cc nL rt B Qa 113 ρ0 k z (pc + 3) L (vi x :: st) μ') : Go l D cA X own cc nL rt B Qa 113 ρ0 k z pc L stk μ :=
  go_virt d hc hl hm hsv hcl hi hs hci hb hf hst hcat hlen (fun r n' ρ' μ' hq _ => by obtain ⟨rfl, rfl, x, rfl, hp⟩ := hq; exact kk x μ' hp)
theorem go_vL {index nL' na d' i ci N : Nat} {T : u_T} {y : MethodName} {cc' : ByteArray} {rt' : Option FieldType} {p : Int → Mem → Prop} {as stk : List AV} (d : decode cc pc = .ok (.invokevirtual index, 3)) (hc : CtN l D cA y cc' nL' rt' d' (vr i :: as) μ (Pl p)) (hl : ML own index y) (hm : MC y cc' nL' rt' na) (hsv : Cond.instanceMethod y ∈ TB ∧ Cond.selects y.cls y y ∈ TB) (hcl : vwCl[ci]? = some (y.cls, T, N)) (hi : i < 113) (hs : shp i = (ci, N)) (hci : Nat.blt ci 20 = true) (hb : Nat.ble (d' + 1) B.1 = true ∧ Nat.ble nL' 21 = true) (hf : k ≤ B.2.1 ∧ z ≤ B.2.2) (hst : stk = as.reverse ++ vr i :: st) (hcat : Nat.ble (st.map cat).sum 8 = true) (hlen : as.length = na) (kk : ∀ x μ', p x μ' → Go l D cA X own cc nL rt B Qa 113 ρ0 k z (pc + 3) L (vl x :: st) μ') : Go l D cA X own cc nL rt B Qa 113 ρ0 k z pc L stk μ :=
  go_virt d hc hl hm hsv hcl hi hs hci hb hf hst hcat hlen (fun r n' ρ' μ' hq _ => by obtain ⟨rfl, rfl, x, rfl, hp⟩ := hq; exact kk x μ' hp)
theorem go_vV {index nL' na d' i ci N : Nat} {T : u_T} {y : MethodName} {cc' : ByteArray} {rt' : Option FieldType} {p : Mem → Prop} {as stk : List AV} (d : decode cc pc = .ok (.invokevirtual index, 3)) (hc : CtN l D cA y cc' nL' rt' d' (vr i :: as) μ (Pv p)) (hl : ML own index y) (hm : MC y cc' nL' rt' na) (hsv : Cond.instanceMethod y ∈ TB ∧ Cond.selects y.cls y y ∈ TB) (hcl : vwCl[ci]? = some (y.cls, T, N)) (hi : i < 113) (hs : shp i = (ci, N)) (hci : Nat.blt ci 20 = true) (hb : Nat.ble (d' + 1) B.1 = true ∧ Nat.ble nL' 21 = true) (hf : k ≤ B.2.1 ∧ z ≤ B.2.2) (hst : stk = as.reverse ++ vr i :: st) (hcat : Nat.ble (st.map cat).sum 8 = true) (hlen : as.length = na) (kk : ∀ μ', p μ' → Go l D cA X own cc nL rt B Qa 113 ρ0 k z (pc + 3) L st μ') : Go l D cA X own cc nL rt B Qa 113 ρ0 k z pc L stk μ :=
  go_virt d hc hl hm hsv hcl hi hs hci hb hf hst hcat hlen (fun r n' ρ' μ' hq _ => by obtain ⟨rfl, rfl, rfl, hp⟩ := hq; exact kk μ' hp)
theorem go_ri {x : Int} {p : Int → Mem → Prop} (d : decode cc pc = .ok (.ireturn, 1)) (hty : tyOK rt (some (vi x))) (hk : k ≤ B.2.1 ∧ z ≤ B.2.2) (hq : p x μ) : Go l D cA X own cc nL rt B (QN (Pi p)) 113 ρ0 k z pc L [vi x] μ := go_ret (r := some (vi x)) d hty rfl hk.1 hk.2 ⟨rfl, rfl, x, rfl, hq⟩
theorem go_rl {x : Int} {p : Int → Mem → Prop} (d : decode cc pc = .ok (.lreturn, 1)) (hty : tyOK rt (some (vl x))) (hk : k ≤ B.2.1 ∧ z ≤ B.2.2) (hq : p x μ) : Go l D cA X own cc nL rt B (QN (Pl p)) 113 ρ0 k z pc L [vl x] μ := go_ret (r := some (vl x)) d hty rfl hk.1 hk.2 ⟨rfl, rfl, x, rfl, hq⟩
theorem go_rv {p : Mem → Prop} (d : decode cc pc = .ok (.return_, 1)) (hty : tyOK rt none) (hk : k ≤ B.2.1 ∧ z ≤ B.2.2) (hq : p μ) : Go l D cA X own cc nL rt B (QN (Pv p)) 113 ρ0 k z pc L [] μ := go_ret (r := none) d hty rfl hk.1 hk.2 ⟨rfl, rfl, rfl, hq⟩
theorem go_case {a : Int} (v : Int) {n : Nat} {ρ : RefM} (h1 : a = v → Go l D cA X own cc nL rt B Qa n ρ k z pc L (vi a :: st) μ) (h2 : a ≠ v → Go l D cA X own cc nL rt B Qa n ρ k z pc L (vi a :: st) μ) : Go l D cA X own cc nL rt B Qa n ρ k z pc L (vi a :: st) μ := by
  by_cases h : a = v
  · exact h1 h
  · exact h2 h
theorem go_rows {a : Int} (d : decode cc pc = .ok (.aaload, 1)) (h0 : 0 ≤ a) (h1 : a < 14) (kk : 4 + 2 * a.toNat < 113 → 4 + 2 * a.toNat + 1 < 113 → shp (4 + 2 * a.toNat) = (0, 4) → shp (4 + 2 * a.toNat + 1) = (20, 96) → ρ0 (4 + 2 * a.toNat) (3 : Nat) = some (4 + 2 * a.toNat + 1) → Go l D cA X own cc nL rt B Qa 113 ρ0 k z (pc + 1) L (vr (4 + 2 * a.toNat) :: st) μ) : Go l D cA X own cc nL rt B Qa 113 ρ0 k z pc L (vi a :: vr 2 :: st) μ := by
  have hl : isLw (4 + 2 * a.toNat) := by unfold isLw; omega
  obtain ⟨_, _, f1, f2, f3, f4, f5⟩ := lw_f hl
  refine go_aaload (t := 0) (N := 14) d (Nat.le_of_ble_eq_true rfl) rfl (by decide) h0 h1 ?_ (kk f1 f2 f3 f4 f5)
  show (if a < 0 then none else (if a < 14 then some (4 + 2 * a.toNat) else none)) = _
  rw [if_neg (by omega), if_pos h1]
theorem go_sheets {a : Int} (d : decode cc pc = .ok (.aaload, 1)) (h0 : 0 ≤ a) (h1 : a < 4) (kk : 62 + 2 * a.toNat < 113 → 62 + 2 * a.toNat + 1 < 113 → shp (62 + 2 * a.toNat) = (4, 3) → shp (62 + 2 * a.toNat + 1) = (20, 24) → ρ0 (62 + 2 * a.toNat) (2 : Nat) = some (62 + 2 * a.toNat + 1) → Go l D cA X own cc nL rt B Qa 113 ρ0 k z (pc + 1) L (vr (62 + 2 * a.toNat) :: st) μ) : Go l D cA X own cc nL rt B Qa 113 ρ0 k z pc L (vi a :: vr 61 :: st) μ := by
  have hl : isSh (62 + 2 * a.toNat) := by unfold isSh; omega
  obtain ⟨_, _, f1, f2, f3, f4, f5⟩ := sh_f hl
  refine go_aaload (t := 1) (N := 4) d (Nat.le_of_ble_eq_true rfl) rfl (by decide) h0 h1 ?_ (kk f1 f2 f3 f4 f5)
  show (if a < 0 then none else (if a < 4 then some (62 + 2 * a.toNat) else none)) = _
  rw [if_neg (by omega), if_pos h1]
theorem go_slots {a : Int} (d : decode cc pc = .ok (.aaload, 1)) (h0 : 0 ≤ a) (h1 : a < 5) (kk : 71 + 3 * a.toNat < 113 → 71 + 3 * a.toNat + 1 < 113 → shp (71 + 3 * a.toNat) = (5, 6) → shp (71 + 3 * a.toNat + 1) = (4, 3) → ρ0 (71 + 3 * a.toNat) (5 : Nat) = some (71 + 3 * a.toNat + 1) → 71 + 3 * a.toNat + 1 + 1 < 113 → shp (71 + 3 * a.toNat + 1 + 1) = (20, 24) → ρ0 (71 + 3 * a.toNat + 1) (2 : Nat) = some (71 + 3 * a.toNat + 1 + 1) → Go l D cA X own cc nL rt B Qa 113 ρ0 k z (pc + 1) L (vr (71 + 3 * a.toNat) :: st) μ) : Go l D cA X own cc nL rt B Qa 113 ρ0 k z pc L (vi a :: vr 70 :: st) μ := by
  have hl : isSl (71 + 3 * a.toNat) := by unfold isSl; omega
  have hl2 : isSh (71 + 3 * a.toNat + 1) := by unfold isSh; omega
  obtain ⟨_, _, f1, f2, f3, f4, f5⟩ := sl_f hl
  obtain ⟨_, _, _, g2, _, g4, g5⟩ := sh_f hl2
  refine go_aaload (t := 2) (N := 5) d (Nat.le_of_ble_eq_true rfl) rfl (by decide) h0 h1 ?_ (kk f1 f2 f3 f4 f5 g2 g4 g5)
  show (if a < 0 then none else (if a < 5 then some (71 + 3 * a.toNat) else none)) = _
  rw [if_neg (by omega), if_pos h1]
/-! Math.max, Math.min, System.arraycopy -/
def MW (own : String) (index : Nat) (y : MethodName) (cc : ByteArray) : Prop := Cond.methodLink own index y ∈ TB ∧ Cond.static y ∈ TB ∧ Cond.initialized "java/lang/Math" ∈ TB ∧ Cond.code y cc 2 (some .int) ∈ TB
theorem go_max {index : Nat} {a b : Int} {n : Nat} {ρ : RefM} (d : decode cc pc = .ok (.invokestatic index, 3)) (M : MW own index Lib.Math.max.name Lib.Math.max.code) (hB1 : Nat.ble 1 B.1 = true) (hcat : Nat.ble (st.map cat).sum 8 = true) (hf : k ≤ B.2.1 ∧ z ≤ B.2.2) (kk : Go l D cA X own cc nL rt B Qa n ρ k z (pc + 3) L (vi (max a b) :: st) μ) : Go l D cA X own cc nL rt B Qa n ρ k z pc L (vi b :: vi a :: st) μ := by
  intro p e R s m args below meth c Q A n0 σ0 σ H locs ls hC hR hn hσ hW hl hL hst
  obtain ⟨hx, hb, hml, hown, hts, hK, hA, hE, hB, hX⟩ := id hC
  have ha : iR a := ok_hd (ok_tl hst)
  have hb2 : iR b := ok_hd hst
  have h1 := Nat.le_of_ble_eq_true hB1
  have h8 : ((st.map (cv σ)).map fun v => v.category).sum ≤ 8 := by rw [cat_sum]; exact Nat.le_of_ble_eq_true hcat
  have hmx : iR (max a b) := by unfold iR at *; omega
  have K := kk p e R s m args below meth c Q A n0 σ0 σ H locs ls hC hR hn hσ hW hl hL (ok_cons hmx (ok_tl (ok_tl hst)))
  refine va_mmax hx hb (hml.trans hl.1.symm) hown (hts _ M.1) (hts _ M.2.1) (hts _ M.2.2.1) (hts _ M.2.2.2) (by have := hB.1; omega) (by have := hB.2.1; omega) (Nat.le_trans hf.1 hB.2.2.1) (Nat.le_trans hf.2 hB.2.2.2) d ?_
  have e0 : (if Int32.ofInt a < Int32.ofInt b then Int32.ofInt b else Int32.ofInt a) = Int32.ofInt (max a b) := by
    by_cases h : a < b
    · rw [if_pos ((oi_lt ha hb2).mpr h), show max a b = b by omega]
    · rw [if_neg (fun q => h ((oi_lt ha hb2).mp q)), show max a b = a by omega]
  rw [e0]
  exact K
theorem go_min {index : Nat} {a b : Int} {n : Nat} {ρ : RefM} (d : decode cc pc = .ok (.invokestatic index, 3)) (M : MW own index Lib.Math.min.name Lib.Math.min.code) (hB1 : Nat.ble 1 B.1 = true) (hcat : Nat.ble (st.map cat).sum 8 = true) (hf : k ≤ B.2.1 ∧ z ≤ B.2.2) (kk : Go l D cA X own cc nL rt B Qa n ρ k z (pc + 3) L (vi (min a b) :: st) μ) : Go l D cA X own cc nL rt B Qa n ρ k z pc L (vi b :: vi a :: st) μ := by
  intro p e R s m args below meth c Q A n0 σ0 σ H locs ls hC hR hn hσ hW hl hL hst
  obtain ⟨hx, hb, hml, hown, hts, hK, hA, hE, hB, hX⟩ := id hC
  have ha : iR a := ok_hd (ok_tl hst)
  have hb2 : iR b := ok_hd hst
  have h1 := Nat.le_of_ble_eq_true hB1
  have h8 : ((st.map (cv σ)).map fun v => v.category).sum ≤ 8 := by rw [cat_sum]; exact Nat.le_of_ble_eq_true hcat
  have hmx : iR (min a b) := by unfold iR at *; omega
  have K := kk p e R s m args below meth c Q A n0 σ0 σ H locs ls hC hR hn hσ hW hl hL (ok_cons hmx (ok_tl (ok_tl hst)))
  refine va_mmin hx hb (hml.trans hl.1.symm) hown (hts _ M.1) (hts _ M.2.1) (hts _ M.2.2.1) (hts _ M.2.2.2) (by have := hB.1; omega) (by have := hB.2.1; omega) (Nat.le_trans hf.1 hB.2.2.1) (Nat.le_trans hf.2 hB.2.2.2) d ?_
  have e0 : (if Int32.ofInt b < Int32.ofInt a then Int32.ofInt b else Int32.ofInt a) = Int32.ofInt (min a b) := by
    by_cases h : b < a
    · rw [if_pos ((oi_lt hb2 ha).mpr h), show min a b = b by omega]
    · rw [if_neg (fun q => h ((oi_lt hb2 ha).mp q)), show min a b = a by omega]
  rw [e0]
  exact K
def cpI (f g : Int → Int) (sp dp c : Int) : Int → Int := fun j => if dp ≤ j ∧ j < dp + c then f (sp + (j - dp)) else g j
def AW (own : String) (index : Nat) : Prop := Cond.methodLink own index arraycopyName ∈ TB ∧ Cond.native arraycopyName ∈ TB ∧ Cond.static arraycopyName ∈ TB ∧ Cond.initialized "java/lang/System" ∈ TB
theorem okM_ua {i : Nat} {f : Int → Int} (h : okM μ) (hf : ∀ j, iR (f j)) : okM (ua μ i f) := by
  intro p q
  unfold ua
  by_cases e : p = i
  · rw [if_pos e]; exact hf q
  · rw [if_neg e]; exact h p q
theorem go_copy {index i0 i1 N0 N1 : Nat} {c sp dp : Int} {n : Nat} {ρ : RefM} (d : decode cc pc = .ok (.invokestatic index, 3)) (M : AW own index) (hB1 : Nat.ble 1 B.1 = true) (hcat : Nat.ble (st.map cat).sum 8 = true) (h0 : i0 < n) (h1 : i1 < n) (s0 : shp i0 = (20, N0)) (s1 : shp i1 = (20, N1)) (g0 : 0 ≤ sp) (g1 : 0 ≤ dp) (g2 : 0 ≤ c) (g3 : sp + c ≤ (N0 : Nat)) (g4 : dp + c ≤ (N1 : Nat)) (kk : Go l D cA X own cc nL rt B Qa n ρ k z (pc + 3) L st (ua μ i1 (cpI (μ i0) (μ i1) sp dp c))) : Go l D cA X own cc nL rt B Qa n ρ k z pc L (vi c :: vi dp :: vr i1 :: vi sp :: vr i0 :: st) μ := by
  intro p e R s m args below meth c' Q A n0 σ0 σ H locs ls hC hR hn hσ hW hl hL hst
  obtain ⟨hx, hb, hml, hown, hts, hK, hA, hE, hB, hX⟩ := id hC
  have hc : iR c := ok_hd hst
  have hdp : iR dp := ok_hd (ok_tl hst)
  have hsp : iR sp := ok_hd (ok_tl (ok_tl (ok_tl hst)))
  have hb1 := Nat.le_of_ble_eq_true hB1
  have h8 : ((st.map (cv σ)).map fun v => v.category).sum ≤ 8 := by rw [cat_sum]; exact Nat.le_of_ble_eq_true hcat
  have hset : (wl cA n σ ρ μ).set i1 (σ i1, .inl (cA 0, N1, .inl (va_cpy (fun j => Int32.ofInt (μ i0 (j : Nat))) (fun j => Int32.ofInt (μ i1 (j : Nat))) (Int32.ofInt sp).toNatClampNeg (Int32.ofInt dp).toNatClampNeg (Int32.ofInt c).toNatClampNeg))) = wl cA n σ ρ (ua μ i1 (cpI (μ i0) (μ i1) sp dp c)) := wl_set (by
    rw [s1, ent_i, oi_nat hsp, oi_nat hdp, oi_nat hc]
    congr 5
    funext j
    unfold va_cpy cpI
    by_cases hj : dp.toNat ≤ j ∧ j < dp.toNat + c.toNat
    · rw [if_pos hj, if_pos (by omega)]
      have e1 : ((sp.toNat + (j - dp.toNat) : Nat) : Int) = sp + ((j : Nat) - dp) := by omega
      show Int32.ofInt (μ i0 ((sp.toNat + (j - dp.toNat) : Nat) : Int)) = _
      rw [e1]
    · rw [if_neg hj, if_neg (by omega)])
  have z0 : iR 0 := ⟨by decide, by decide⟩
  have hM2 : okM (ua μ i1 (cpI (μ i0) (μ i1) sp dp c)) := okM_ua hW.2.2.2.1 (fun j => by unfold cpI; split <;> exact hW.2.2.2.1 _ _)
  refine va_copyi (ty := .int) hx hb (hml.trans hl.1.symm) hown (hts _ M.1) (hts _ M.2.1) (hts _ M.2.2.1) (hts _ M.2.2.2) hK hW.1 hW.2.1 hW.2.2.1 i0 i1 0 0 (wl_i h0 s0) (wl_i h1 s1) rfl rfl rfl (fun q => absurd ((oi_lt hsp z0).mp q) (by omega)) (fun q => absurd ((oi_lt hdp z0).mp q) (by omega)) (fun q => absurd ((oi_lt hc z0).mp q) (by omega)) (by rw [oi_nat hsp, oi_nat hc]; omega) (by rw [oi_nat hdp, oi_nat hc]; omega) (fun _ _ => rfl) (by have := hB.1; omega) ?_ d (fun H1 locs1 hP1 hD1 hS1 => kk p e R s m args below meth c' Q A n0 σ0 σ H1 locs1 ls hC hR hn hσ (hW.upd hset hM2 hP1 hD1 hS1) hl hL (ok_tl (ok_tl (ok_tl (ok_tl (ok_tl hst))))))
  have : nativeFrameWords "java/lang/System" "arraycopy" 5 + 11 ≤ 32 := by decide +kernel
  have := hB.2.1
  omega
end World
