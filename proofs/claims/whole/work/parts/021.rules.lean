/-! THE RULES of the judgement Go, an instruction a row -/
section Rules
variable {l : Launch} {D : va_G} {cA : Nat → ClassId} {X : XT} {own : String} {cc : ByteArray} {nL : Nat} {rt : Option FieldType} {B : Nat × Nat × Nat} {Qa : QT} {n : Nat} {ρ : RefM} {k z pc : Nat} {L : List (Nat × AV)} {st : List AV} {μ : Mem}
def iRb (x : Int) : Bool := decide (-2147483648 ≤ x) && decide (x ≤ 2147483647)
theorem iR_of {x : Int} (h : iRb x = true) : iR x := by
  simp only [iRb, Bool.and_eq_true, decide_eq_true_eq] at h; exact h
def lRb (x : Int) : Bool := decide (-9223372036854775808 ≤ x) && decide (x ≤ 9223372036854775807)
theorem lR_of {x : Int} (h : lRb x = true) : lR x := by
  simp only [lRb, Bool.and_eq_true, decide_eq_true_eq] at h; exact h
theorem iR_lR {x : Int} (h : iR x) : lR x := ⟨by have := h.1; omega, by have := h.2; omega⟩
theorem go_iconst {v : Int} (d : decode cc pc = .ok (.iconst v, 1)) (hv : iRb v = true) (kk : Go l D cA X own cc nL rt B Qa n ρ k z (pc + 1) (L) (vi v :: st) (μ)) : Go l D cA X own cc nL rt B Qa n ρ k z (pc) (L) (st) (μ) := by
  intro p e R s m args below meth c Q A n0 σ0 σ H locs ls hC hR hn hσ hW hl hL hst
  obtain ⟨hx, hb, hml, hown, hts, hK, hA, hE, hB, hX⟩ := id hC
  exact lv_iconst hx hb d rfl (kk p e R s m args below meth c Q A n0 σ0 σ H locs ls hC hR hn hσ hW hl hL (ok_cons (iR_of hv) hst))
theorem go_bipush {v : Int} (d : decode cc pc = .ok (.bipush v, 2)) (hv : iRb v = true) (he : (Int8.ofInt v).toInt32 = Int32.ofInt v) (kk : Go l D cA X own cc nL rt B Qa n ρ k z (pc + 2) (L) (vi v :: st) (μ)) : Go l D cA X own cc nL rt B Qa n ρ k z (pc) (L) (st) (μ) := by
  intro p e R s m args below meth c Q A n0 σ0 σ H locs ls hC hR hn hσ hW hl hL hst
  obtain ⟨hx, hb, hml, hown, hts, hK, hA, hE, hB, hX⟩ := id hC
  exact lv_bipush hx hb d he (kk p e R s m args below meth c Q A n0 σ0 σ H locs ls hC hR hn hσ hW hl hL (ok_cons (iR_of hv) hst))
theorem go_sipush {v : Int} (d : decode cc pc = .ok (.sipush v, 3)) (hv : iRb v = true) (he : (Int16.ofInt v).toInt32 = Int32.ofInt v) (kk : Go l D cA X own cc nL rt B Qa n ρ k z (pc + 3) (L) (vi v :: st) (μ)) : Go l D cA X own cc nL rt B Qa n ρ k z (pc) (L) (st) (μ) := by
  intro p e R s m args below meth c Q A n0 σ0 σ H locs ls hC hR hn hσ hW hl hL hst
  obtain ⟨hx, hb, hml, hown, hts, hK, hA, hE, hB, hX⟩ := id hC
  exact lv_sipush hx hb d he (kk p e R s m args below meth c Q A n0 σ0 σ H locs ls hC hR hn hσ hW hl hL (ok_cons (iR_of hv) hst))
theorem go_ldc {v : Int} {index : Nat} (d : decode cc pc = .ok (.ldc index, 2)) (hc : Cond.constant own index (Int32.ofInt v) ∈ TB) (hv : iRb v = true) (kk : Go l D cA X own cc nL rt B Qa n ρ k z (pc + 2) (L) (vi v :: st) (μ)) : Go l D cA X own cc nL rt B Qa n ρ k z (pc) (L) (st) (μ) := by
  intro p e R s m args below meth c Q A n0 σ0 σ H locs ls hC hR hn hσ hW hl hL hst
  obtain ⟨hx, hb, hml, hown, hts, hK, hA, hE, hB, hX⟩ := id hC
  exact lv_ldc hx hb hown (hts _ hc) d (kk p e R s m args below meth c Q A n0 σ0 σ H locs ls hC hR hn hσ hW hl hL (ok_cons (iR_of hv) hst))
theorem go_ldcw {v : Int} {index : Nat} (d : decode cc pc = .ok (.ldc_w index, 3)) (hc : Cond.constant own index (Int32.ofInt v) ∈ TB) (hv : iRb v = true) (kk : Go l D cA X own cc nL rt B Qa n ρ k z (pc + 3) (L) (vi v :: st) (μ)) : Go l D cA X own cc nL rt B Qa n ρ k z (pc) (L) (st) (μ) := by
  intro p e R s m args below meth c Q A n0 σ0 σ H locs ls hC hR hn hσ hW hl hL hst
  obtain ⟨hx, hb, hml, hown, hts, hK, hA, hE, hB, hX⟩ := id hC
  exact lv_ldcw hx hb hown (hts _ hc) d (kk p e R s m args below meth c Q A n0 σ0 σ H locs ls hC hR hn hσ hW hl hL (ok_cons (iR_of hv) hst))
theorem go_lconst {v : Fin 2} (d : decode cc pc = .ok (.lconst v, 1)) (kk : Go l D cA X own cc nL rt B Qa n ρ k z (pc + 1) (L) (vl (v : Nat) :: st) (μ)) : Go l D cA X own cc nL rt B Qa n ρ k z (pc) (L) (st) (μ) := by
  intro p e R s m args below meth c Q A n0 σ0 σ H locs ls hC hR hn hσ hW hl hL hst
  obtain ⟨hx, hb, hml, hown, hts, hK, hA, hE, hB, hX⟩ := id hC
  exact lv_lconst hx hb d (show Int64.ofNat (v : Nat) = Int64.ofInt ((v : Nat) : Int) from rfl) (kk p e R s m args below meth c Q A n0 σ0 σ H locs ls hC hR hn hσ hW hl hL (ok_cons (show lR ((v : Nat) : Int) from by unfold lR; have := v.2; omega) hst))
theorem go_ldc2 {v : Int} {index : Nat} (d : decode cc pc = .ok (.ldc2_w index, 3)) (hc : Cond.constantLong own index (Int64.ofInt v) ∈ TB) (hv : lRb v = true) (kk : Go l D cA X own cc nL rt B Qa n ρ k z (pc + 3) (L) (vl v :: st) (μ)) : Go l D cA X own cc nL rt B Qa n ρ k z (pc) (L) (st) (μ) := by
  intro p e R s m args below meth c Q A n0 σ0 σ H locs ls hC hR hn hσ hW hl hL hst
  obtain ⟨hx, hb, hml, hown, hts, hK, hA, hE, hB, hX⟩ := id hC
  exact lv_ldc2 hx hb hown (hts _ hc) d (kk p e R s m args below meth c Q A n0 σ0 σ H locs ls hC hR hn hσ hW hl hL (ok_cons (lR_of hv) hst))
theorem go_iload_n {i : Fin 4} {x : Int} (d : decode cc pc = .ok (.iload_n i, 1)) (h : lk L (i : Nat) = some (vi x)) (kk : Go l D cA X own cc nL rt B Qa n ρ k z (pc + 1) (L) (vi x :: st) (μ)) : Go l D cA X own cc nL rt B Qa n ρ k z (pc) (L) (st) (μ) := by
  intro p e R s m args below meth c Q A n0 σ0 σ H locs ls hC hR hn hσ hW hl hL hst
  obtain ⟨hx, hb, hml, hown, hts, hK, hA, hE, hB, hX⟩ := id hC
  exact lv_iload_n hx hb d rfl (lk_val hl h) (kk p e R s m args below meth c Q A n0 σ0 σ H locs ls hC hR hn hσ hW hl hL (ok_cons (lk_ok hL h) hst))
theorem go_iload {i : Nat} {x : Int} (d : decode cc pc = .ok (.iload i, 2)) (h : lk L i = some (vi x)) (kk : Go l D cA X own cc nL rt B Qa n ρ k z (pc + 2) (L) (vi x :: st) (μ)) : Go l D cA X own cc nL rt B Qa n ρ k z (pc) (L) (st) (μ) := by
  intro p e R s m args below meth c Q A n0 σ0 σ H locs ls hC hR hn hσ hW hl hL hst
  obtain ⟨hx, hb, hml, hown, hts, hK, hA, hE, hB, hX⟩ := id hC
  exact lv_iload hx hb d (lk_val hl h) (kk p e R s m args below meth c Q A n0 σ0 σ H locs ls hC hR hn hσ hW hl hL (ok_cons (lk_ok hL h) hst))
theorem go_lload_n {i : Fin 4} {x : Int} (d : decode cc pc = .ok (.lload_n i, 1)) (h : lk L (i : Nat) = some (vl x)) (kk : Go l D cA X own cc nL rt B Qa n ρ k z (pc + 1) (L) (vl x :: st) (μ)) : Go l D cA X own cc nL rt B Qa n ρ k z (pc) (L) (st) (μ) := by
  intro p e R s m args below meth c Q A n0 σ0 σ H locs ls hC hR hn hσ hW hl hL hst
  obtain ⟨hx, hb, hml, hown, hts, hK, hA, hE, hB, hX⟩ := id hC
  exact lv_lload_n hx hb d rfl (lk_val hl h) (kk p e R s m args below meth c Q A n0 σ0 σ H locs ls hC hR hn hσ hW hl hL (ok_cons (lk_ok hL h) hst))
theorem go_lload {i : Nat} {x : Int} (d : decode cc pc = .ok (.lload i, 2)) (h : lk L i = some (vl x)) (kk : Go l D cA X own cc nL rt B Qa n ρ k z (pc + 2) (L) (vl x :: st) (μ)) : Go l D cA X own cc nL rt B Qa n ρ k z (pc) (L) (st) (μ) := by
  intro p e R s m args below meth c Q A n0 σ0 σ H locs ls hC hR hn hσ hW hl hL hst
  obtain ⟨hx, hb, hml, hown, hts, hK, hA, hE, hB, hX⟩ := id hC
  exact lv_lload hx hb d (lk_val hl h) (kk p e R s m args below meth c Q A n0 σ0 σ H locs ls hC hR hn hσ hW hl hL (ok_cons (lk_ok hL h) hst))
theorem go_aload_n {i : Fin 4} {x : Nat} (d : decode cc pc = .ok (.aload_n i, 1)) (h : lk L (i : Nat) = some (vr x)) (kk : Go l D cA X own cc nL rt B Qa n ρ k z (pc + 1) (L) (vr x :: st) (μ)) : Go l D cA X own cc nL rt B Qa n ρ k z (pc) (L) (st) (μ) := by
  intro p e R s m args below meth c Q A n0 σ0 σ H locs ls hC hR hn hσ hW hl hL hst
  obtain ⟨hx, hb, hml, hown, hts, hK, hA, hE, hB, hX⟩ := id hC
  exact lv_aload_n hx hb d rfl (lk_val hl h) (kk p e R s m args below meth c Q A n0 σ0 σ H locs ls hC hR hn hσ hW hl hL (ok_cons (lk_ok hL h) hst))
theorem go_aload {i : Nat} {x : Nat} (d : decode cc pc = .ok (.aload i, 2)) (h : lk L i = some (vr x)) (kk : Go l D cA X own cc nL rt B Qa n ρ k z (pc + 2) (L) (vr x :: st) (μ)) : Go l D cA X own cc nL rt B Qa n ρ k z (pc) (L) (st) (μ) := by
  intro p e R s m args below meth c Q A n0 σ0 σ H locs ls hC hR hn hσ hW hl hL hst
  obtain ⟨hx, hb, hml, hown, hts, hK, hA, hE, hB, hX⟩ := id hC
  exact lv_aload hx hb d (lk_val hl h) (kk p e R s m args below meth c Q A n0 σ0 σ H locs ls hC hR hn hσ hW hl hL (ok_cons (lk_ok hL h) hst))
theorem go_istore_n {i : Fin 4} {x : Int} (d : decode cc pc = .ok (.istore_n i, 1)) (hi : Nat.blt i nL = true) (kk : Go l D cA X own cc nL rt B Qa n ρ k z (pc + 1) (sto i (vi x) L) (st) (μ)) : Go l D cA X own cc nL rt B Qa n ρ k z (pc) (L) (vi x :: st) (μ) := by
  intro p e R s m args below meth c Q A n0 σ0 σ H locs ls hC hR hn hσ hW hl hL hst
  obtain ⟨hx, hb, hml, hown, hts, hK, hA, hE, hB, hX⟩ := id hC
  exact lv_istore_n hx hb d rfl hl (Nat.le_of_ble_eq_true hi) rfl (fun ls' hl' => kk p e R s m args below meth c Q A n0 σ0 σ H locs ls' hC hR hn hσ hW (sto_has (v := vi x) hl') (sto_ok (ok_hd hst) hL) (ok_tl hst))
theorem go_istore {i : Nat} {x : Int} (d : decode cc pc = .ok (.istore i, 2)) (hi : Nat.blt i nL = true) (kk : Go l D cA X own cc nL rt B Qa n ρ k z (pc + 2) (sto i (vi x) L) (st) (μ)) : Go l D cA X own cc nL rt B Qa n ρ k z (pc) (L) (vi x :: st) (μ) := by
  intro p e R s m args below meth c Q A n0 σ0 σ H locs ls hC hR hn hσ hW hl hL hst
  obtain ⟨hx, hb, hml, hown, hts, hK, hA, hE, hB, hX⟩ := id hC
  exact lv_istore hx hb d hl (Nat.le_of_ble_eq_true hi) rfl (fun ls' hl' => kk p e R s m args below meth c Q A n0 σ0 σ H locs ls' hC hR hn hσ hW (sto_has (v := vi x) hl') (sto_ok (ok_hd hst) hL) (ok_tl hst))
theorem go_astore_n {i : Fin 4} {x : Nat} (d : decode cc pc = .ok (.astore_n i, 1)) (hi : Nat.blt i nL = true) (kk : Go l D cA X own cc nL rt B Qa n ρ k z (pc + 1) (sto i (vr x) L) (st) (μ)) : Go l D cA X own cc nL rt B Qa n ρ k z (pc) (L) (vr x :: st) (μ) := by
  intro p e R s m args below meth c Q A n0 σ0 σ H locs ls hC hR hn hσ hW hl hL hst
  obtain ⟨hx, hb, hml, hown, hts, hK, hA, hE, hB, hX⟩ := id hC
  exact lv_astore_n hx hb d rfl hl (Nat.le_of_ble_eq_true hi) rfl (fun ls' hl' => kk p e R s m args below meth c Q A n0 σ0 σ H locs ls' hC hR hn hσ hW (sto_has (v := vr x) hl') (sto_ok (ok_hd hst) hL) (ok_tl hst))
theorem go_astore {i : Nat} {x : Nat} (d : decode cc pc = .ok (.astore i, 2)) (hi : Nat.blt i nL = true) (kk : Go l D cA X own cc nL rt B Qa n ρ k z (pc + 2) (sto i (vr x) L) (st) (μ)) : Go l D cA X own cc nL rt B Qa n ρ k z (pc) (L) (vr x :: st) (μ) := by
  intro p e R s m args below meth c Q A n0 σ0 σ H locs ls hC hR hn hσ hW hl hL hst
  obtain ⟨hx, hb, hml, hown, hts, hK, hA, hE, hB, hX⟩ := id hC
  exact lv_astore hx hb d hl (Nat.le_of_ble_eq_true hi) rfl (fun ls' hl' => kk p e R s m args below meth c Q A n0 σ0 σ H locs ls' hC hR hn hσ hW (sto_has (v := vr x) hl') (sto_ok (ok_hd hst) hL) (ok_tl hst))
theorem go_lstore_n {i : Fin 4} {x : Int} (d : decode cc pc = .ok (.lstore_n i, 1)) (hi : Nat.blt (i + 1) nL = true) (kk : Go l D cA X own cc nL rt B Qa n ρ k z (pc + 1) (stl i (vl x) L) (st) (μ)) : Go l D cA X own cc nL rt B Qa n ρ k z (pc) (L) (vl x :: st) (μ) := by
  intro p e R s m args below meth c Q A n0 σ0 σ H locs ls hC hR hn hσ hW hl hL hst
  obtain ⟨hx, hb, hml, hown, hts, hK, hA, hE, hB, hX⟩ := id hC
  exact lv_lstore_n hx hb d rfl hl (Nat.le_of_ble_eq_true hi) rfl (fun ls' hl' => kk p e R s m args below meth c Q A n0 σ0 σ H locs ls' hC hR hn hσ hW (stl_has (v := vl x) hl') (stl_ok (ok_hd hst) hL) (ok_tl hst))
theorem go_lstore {i : Nat} {x : Int} (d : decode cc pc = .ok (.lstore i, 2)) (hi : Nat.blt (i + 1) nL = true) (kk : Go l D cA X own cc nL rt B Qa n ρ k z (pc + 2) (stl i (vl x) L) (st) (μ)) : Go l D cA X own cc nL rt B Qa n ρ k z (pc) (L) (vl x :: st) (μ) := by
  intro p e R s m args below meth c Q A n0 σ0 σ H locs ls hC hR hn hσ hW hl hL hst
  obtain ⟨hx, hb, hml, hown, hts, hK, hA, hE, hB, hX⟩ := id hC
  exact lv_lstore hx hb d hl (Nat.le_of_ble_eq_true hi) rfl (fun ls' hl' => kk p e R s m args below meth c Q A n0 σ0 σ H locs ls' hC hR hn hσ hW (stl_has (v := vl x) hl') (stl_ok (ok_hd hst) hL) (ok_tl hst))
theorem go_iinc {i : Nat} {w x : Int} (d : decode cc pc = .ok (.iinc i w, 3)) (h : lk L i = some (vi x)) (hi : Nat.blt i nL = true) (hr : iR (x + w)) (kk : Go l D cA X own cc nL rt B Qa n ρ k z (pc + 3) (sto i (vi (x + w)) L) (st) (μ)) : Go l D cA X own cc nL rt B Qa n ρ k z (pc) (L) (st) (μ) := by
  intro p e R s m args below meth c Q A n0 σ0 σ H locs ls hC hR hn hσ hW hl hL hst
  obtain ⟨hx, hb, hml, hown, hts, hK, hA, hE, hB, hX⟩ := id hC
  obtain ⟨j, hj⟩ := List.getElem?_of_mem (lk_mem h)
  have hj2 : (L.map (fun q => (q.1, cv σ q.2)))[j]? = some (i, .int (Int32.ofInt x)) := by rw [List.getElem?_map, hj]; rfl
  exact lv_iinc (v := Int32.ofInt (x + w)) hx hb d hl hj2 (Int32.ofInt_add x w).symm (Nat.le_of_ble_eq_true hi) rfl (fun ls' hl' => kk p e R s m args below meth c Q A n0 σ0 σ H locs ls' hC hR hn hσ hW (sto_has (v := vi (x + w)) hl') (sto_ok hr hL) hst)
theorem go_iaddw {a b : Int} (d : decode cc pc = .ok (.iadd, 1)) (kk : Go l D cA X own cc nL rt B Qa n ρ k z (pc + 1) (L) (vi (wr (a + b)) :: st) (μ)) : Go l D cA X own cc nL rt B Qa n ρ k z (pc) (L) (vi b :: vi a :: st) (μ) := by
  intro p e R s m args below meth c Q A n0 σ0 σ H locs ls hC hR hn hσ hW hl hL hst
  obtain ⟨hx, hb, hml, hown, hts, hK, hA, hE, hB, hX⟩ := id hC
  refine lv_iadd hx hb d ?_
  have e0 : Int32.ofInt a + Int32.ofInt b = Int32.ofInt (wr (a + b)) := by rw [of_wr, Int32.ofInt_add]
  rw [e0]
  exact kk p e R s m args below meth c Q A n0 σ0 σ H locs ls hC hR hn hσ hW hl hL (ok_cons (wr_R _) (ok_tl (ok_tl hst)))
theorem go_iadd {a b : Int} (d : decode cc pc = .ok (.iadd, 1)) (hr : iR (a + b)) (kk : Go l D cA X own cc nL rt B Qa n ρ k z (pc + 1) (L) (vi (a + b) :: st) (μ)) : Go l D cA X own cc nL rt B Qa n ρ k z (pc) (L) (vi b :: vi a :: st) (μ) := go_iaddw d (by rw [wr_id hr]; exact kk)
theorem go_isubw {a b : Int} (d : decode cc pc = .ok (.isub, 1)) (kk : Go l D cA X own cc nL rt B Qa n ρ k z (pc + 1) (L) (vi (wr (a - b)) :: st) (μ)) : Go l D cA X own cc nL rt B Qa n ρ k z (pc) (L) (vi b :: vi a :: st) (μ) := by
  intro p e R s m args below meth c Q A n0 σ0 σ H locs ls hC hR hn hσ hW hl hL hst
  obtain ⟨hx, hb, hml, hown, hts, hK, hA, hE, hB, hX⟩ := id hC
  refine lv_isub hx hb d ?_
  have e0 : Int32.ofInt a - Int32.ofInt b = Int32.ofInt (wr (a - b)) := by rw [of_wr, Int32.ofInt_sub]
  rw [e0]
  exact kk p e R s m args below meth c Q A n0 σ0 σ H locs ls hC hR hn hσ hW hl hL (ok_cons (wr_R _) (ok_tl (ok_tl hst)))
theorem go_isub {a b : Int} (d : decode cc pc = .ok (.isub, 1)) (hr : iR (a - b)) (kk : Go l D cA X own cc nL rt B Qa n ρ k z (pc + 1) (L) (vi (a - b) :: st) (μ)) : Go l D cA X own cc nL rt B Qa n ρ k z (pc) (L) (vi b :: vi a :: st) (μ) := go_isubw d (by rw [wr_id hr]; exact kk)
theorem go_imulw {a b : Int} (d : decode cc pc = .ok (.imul, 1)) (kk : Go l D cA X own cc nL rt B Qa n ρ k z (pc + 1) (L) (vi (wr (a * b)) :: st) (μ)) : Go l D cA X own cc nL rt B Qa n ρ k z (pc) (L) (vi b :: vi a :: st) (μ) := by
  intro p e R s m args below meth c Q A n0 σ0 σ H locs ls hC hR hn hσ hW hl hL hst
  obtain ⟨hx, hb, hml, hown, hts, hK, hA, hE, hB, hX⟩ := id hC
  refine lv_imul hx hb d ?_
  have e0 : Int32.ofInt a * Int32.ofInt b = Int32.ofInt (wr (a * b)) := by rw [of_wr, Int32.ofInt_mul]
  rw [e0]
  exact kk p e R s m args below meth c Q A n0 σ0 σ H locs ls hC hR hn hσ hW hl hL (ok_cons (wr_R _) (ok_tl (ok_tl hst)))
theorem go_imul {a b : Int} (d : decode cc pc = .ok (.imul, 1)) (hr : iR (a * b)) (kk : Go l D cA X own cc nL rt B Qa n ρ k z (pc + 1) (L) (vi (a * b) :: st) (μ)) : Go l D cA X own cc nL rt B Qa n ρ k z (pc) (L) (vi b :: vi a :: st) (μ) := go_imulw d (by rw [wr_id hr]; exact kk)
theorem go_ineg {a : Int} (d : decode cc pc = .ok (.ineg, 1)) (kk : Go l D cA X own cc nL rt B Qa n ρ k z (pc + 1) (L) (vi (wr (-a)) :: st) (μ)) : Go l D cA X own cc nL rt B Qa n ρ k z (pc) (L) (vi a :: st) (μ) := by
  intro p e R s m args below meth c Q A n0 σ0 σ H locs ls hC hR hn hσ hW hl hL hst
  obtain ⟨hx, hb, hml, hown, hts, hK, hA, hE, hB, hX⟩ := id hC
  refine lv_ineg hx hb d ?_
  have e0 : -Int32.ofInt a = Int32.ofInt (wr (-a)) := by rw [of_wr, Int32.ofInt_neg]
  rw [e0]
  exact kk p e R s m args below meth c Q A n0 σ0 σ H locs ls hC hR hn hσ hW hl hL (ok_cons (wr_R _) (ok_tl hst))
theorem oi_div {a b : Int} (ha : iR a) (hb : iR b) : Int32.ofInt a / Int32.ofInt b = Int32.ofInt (wr (Int.tdiv a b)) := by
  rw [of_wr]
  refine (Int32.ofInt_tdiv ?_ ?_ ?_ ?_).symm
  · exact ha.1
  · exact ha.2
  · exact hb.1
  · exact hb.2
theorem oi_rem {a b : Int} (ha : iR a) (hb : iR b) : Int32.ofInt a - Int32.ofInt a / Int32.ofInt b * Int32.ofInt b = Int32.ofInt (wr (Int.tmod a b)) := by
  rw [oi_div ha hb, of_wr, of_wr, ← Int32.ofInt_mul, ← Int32.ofInt_sub, Int.tmod_def]
  congr 2
  rw [Int.mul_comm]
theorem oi_n0 {b : Int} (hb : iR b) (h : b ≠ 0) : ¬ Int32.ofInt b = 0 := fun e => h ((oi_eq hb (show iR 0 from ⟨by decide, by decide⟩)).mp e)
theorem go_idivw {a b : Int} (d : decode cc pc = .ok (.idiv, 1)) (h0 : b ≠ 0) (kk : Go l D cA X own cc nL rt B Qa n ρ k z (pc + 1) (L) (vi (wr (Int.tdiv a b)) :: st) (μ)) : Go l D cA X own cc nL rt B Qa n ρ k z (pc) (L) (vi b :: vi a :: st) (μ) := by
  intro p e R s m args below meth c Q A n0 σ0 σ H locs ls hC hR hn hσ hW hl hL hst
  obtain ⟨hx, hb, hml, hown, hts, hK, hA, hE, hB, hX⟩ := id hC
  refine lv_idiv hx hb d (oi_n0 (ok_hd hst) h0) ?_
  rw [oi_div (ok_hd (ok_tl hst)) (ok_hd hst)]
  exact kk p e R s m args below meth c Q A n0 σ0 σ H locs ls hC hR hn hσ hW hl hL (ok_cons (wr_R _) (ok_tl (ok_tl hst)))
theorem go_iremw {a b : Int} (d : decode cc pc = .ok (.irem, 1)) (h0 : b ≠ 0) (kk : Go l D cA X own cc nL rt B Qa n ρ k z (pc + 1) (L) (vi (wr (Int.tmod a b)) :: st) (μ)) : Go l D cA X own cc nL rt B Qa n ρ k z (pc) (L) (vi b :: vi a :: st) (μ) := by
  intro p e R s m args below meth c Q A n0 σ0 σ H locs ls hC hR hn hσ hW hl hL hst
  obtain ⟨hx, hb, hml, hown, hts, hK, hA, hE, hB, hX⟩ := id hC
  refine lv_irem hx hb d (oi_n0 (ok_hd hst) h0) ?_
  rw [oi_rem (ok_hd (ok_tl hst)) (ok_hd hst)]
  exact kk p e R s m args below meth c Q A n0 σ0 σ H locs ls hC hR hn hσ hW hl hL (ok_cons (wr_R _) (ok_tl (ok_tl hst)))
theorem go_idiv {a b : Int} (d : decode cc pc = .ok (.idiv, 1)) (ha : 0 ≤ a) (h0 : 0 < b) (kk : Go l D cA X own cc nL rt B Qa n ρ k z (pc + 1) (L) (vi (a / b) :: st) (μ)) : Go l D cA X own cc nL rt B Qa n ρ k z (pc) (L) (vi b :: vi a :: st) (μ) := by
  intro p e R s m args below meth c Q A n0 σ0 σ H locs ls hC hR hn hσ hW hl hL hst
  have hra : iR a := ok_hd (ok_tl hst)
  have e0 : wr (Int.tdiv a b) = a / b := by
    rw [Int.tdiv_eq_ediv_of_nonneg ha]
    refine wr_id ⟨?_, ?_⟩
    · have := Int.ediv_nonneg ha (Int.le_of_lt h0); omega
    · have := Int.ediv_le_self b ha; have := hra.2; omega
  exact go_idivw d (by omega) (by rw [e0]; exact kk) p e R s m args below meth c Q A n0 σ0 σ H locs ls hC hR hn hσ hW hl hL hst
theorem go_irem {a b : Int} (d : decode cc pc = .ok (.irem, 1)) (ha : 0 ≤ a) (h0 : 0 < b) (kk : Go l D cA X own cc nL rt B Qa n ρ k z (pc + 1) (L) (vi (a % b) :: st) (μ)) : Go l D cA X own cc nL rt B Qa n ρ k z (pc) (L) (vi b :: vi a :: st) (μ) := by
  intro p e R s m args below meth c Q A n0 σ0 σ H locs ls hC hR hn hσ hW hl hL hst
  have hrb : iR b := ok_hd hst
  have e0 : wr (Int.tmod a b) = a % b := by
    rw [Int.tmod_eq_emod_of_nonneg ha]
    refine wr_id ⟨?_, ?_⟩
    · have := Int.emod_nonneg a (by omega : b ≠ 0); omega
    · have := Int.emod_lt_of_pos a h0; have := hrb.2; omega
  exact go_iremw d (by omega) (by rw [e0]; exact kk) p e R s m args below meth c Q A n0 σ0 σ H locs ls hC hR hn hσ hW hl hL hst
def shlI (a b : Int) : Int := (Int32.ofInt a <<< (Int32.ofInt b &&& 31)).toInt
def shrI (a b : Int) : Int := (Int32.ofInt a >>> (Int32.ofInt b &&& 31)).toInt
def ushrI (a b : Int) : Int := ((Int32.ofInt a).toUInt32 >>> ((Int32.ofInt b).toUInt32 &&& Int32.toUInt32 31)).toInt32.toInt
def andI (a b : Int) : Int := (Int32.ofInt a &&& Int32.ofInt b).toInt
def i2sI (a : Int) : Int := (Int32.ofInt a).toInt16.toInt32.toInt
theorem tR (x : Int32) : iR x.toInt := ⟨Int32.le_toInt _, Int.le_of_lt_add_one (Int32.toInt_lt _)⟩
theorem go_ishl {a b : Int} (d : decode cc pc = .ok (.ishl, 1)) (kk : Go l D cA X own cc nL rt B Qa n ρ k z (pc + 1) (L) (vi (shlI a b) :: st) (μ)) : Go l D cA X own cc nL rt B Qa n ρ k z (pc) (L) (vi b :: vi a :: st) (μ) := by
  intro p e R s m args below meth c Q A n0 σ0 σ H locs ls hC hR hn hσ hW hl hL hst
  obtain ⟨hx, hb, hml, hown, hts, hK, hA, hE, hB, hX⟩ := id hC
  refine lv_ishl hx hb d ?_
  have K := kk p e R s m args below meth c Q A n0 σ0 σ H locs ls hC hR hn hσ hW hl hL (ok_cons (tR _) (ok_tl (ok_tl hst)))
  have e0 : cv σ (vi (shlI a b)) = Value.int _ := congrArg Value.int (Int32.ofInt_toInt _)
  rw [List.map_cons, e0] at K
  exact K
theorem go_ishr {a b : Int} (d : decode cc pc = .ok (.ishr, 1)) (kk : Go l D cA X own cc nL rt B Qa n ρ k z (pc + 1) (L) (vi (shrI a b) :: st) (μ)) : Go l D cA X own cc nL rt B Qa n ρ k z (pc) (L) (vi b :: vi a :: st) (μ) := by
  intro p e R s m args below meth c Q A n0 σ0 σ H locs ls hC hR hn hσ hW hl hL hst
  obtain ⟨hx, hb, hml, hown, hts, hK, hA, hE, hB, hX⟩ := id hC
  refine lv_ishr hx hb d ?_
  have K := kk p e R s m args below meth c Q A n0 σ0 σ H locs ls hC hR hn hσ hW hl hL (ok_cons (tR _) (ok_tl (ok_tl hst)))
  have e0 : cv σ (vi (shrI a b)) = Value.int _ := congrArg Value.int (Int32.ofInt_toInt _)
  rw [List.map_cons, e0] at K
  exact K
theorem go_iand {a b : Int} (d : decode cc pc = .ok (.iand, 1)) (kk : Go l D cA X own cc nL rt B Qa n ρ k z (pc + 1) (L) (vi (andI a b) :: st) (μ)) : Go l D cA X own cc nL rt B Qa n ρ k z (pc) (L) (vi b :: vi a :: st) (μ) := by
  intro p e R s m args below meth c Q A n0 σ0 σ H locs ls hC hR hn hσ hW hl hL hst
  obtain ⟨hx, hb, hml, hown, hts, hK, hA, hE, hB, hX⟩ := id hC
  refine lv_iand hx hb d ?_
  have K := kk p e R s m args below meth c Q A n0 σ0 σ H locs ls hC hR hn hσ hW hl hL (ok_cons (tR _) (ok_tl (ok_tl hst)))
  have e0 : cv σ (vi (andI a b)) = Value.int _ := congrArg Value.int (Int32.ofInt_toInt _)
  rw [List.map_cons, e0] at K
  exact K
theorem go_iushr {a b : Int} (d : decode cc pc = .ok (.iushr, 1)) (kk : Go l D cA X own cc nL rt B Qa n ρ k z (pc + 1) (L) (vi (ushrI a b) :: st) (μ)) : Go l D cA X own cc nL rt B Qa n ρ k z (pc) (L) (vi b :: vi a :: st) (μ) := by
  intro p e R s m args below meth c Q A n0 σ0 σ H locs ls hC hR hn hσ hW hl hL hst
  obtain ⟨hx, hb, hml, hown, hts, hK, hA, hE, hB, hX⟩ := id hC
  refine lv_iushr hx hb d rfl ?_
  have K := kk p e R s m args below meth c Q A n0 σ0 σ H locs ls hC hR hn hσ hW hl hL (ok_cons (tR _) (ok_tl (ok_tl hst)))
  have e0 : cv σ (vi (ushrI a b)) = Value.int _ := congrArg Value.int (Int32.ofInt_toInt _)
  rw [List.map_cons, e0] at K
  exact K
theorem go_i2s {a : Int} (d : decode cc pc = .ok (.i2s, 1)) (kk : Go l D cA X own cc nL rt B Qa n ρ k z (pc + 1) (L) (vi (i2sI a) :: st) (μ)) : Go l D cA X own cc nL rt B Qa n ρ k z (pc) (L) (vi a :: st) (μ) := by
  intro p e R s m args below meth c Q A n0 σ0 σ H locs ls hC hR hn hσ hW hl hL hst
  obtain ⟨hx, hb, hml, hown, hts, hK, hA, hE, hB, hX⟩ := id hC
  refine lv_i2s hx hb d rfl ?_
  have K := kk p e R s m args below meth c Q A n0 σ0 σ H locs ls hC hR hn hσ hW hl hL (ok_cons (tR _) (ok_tl hst))
  have e0 : cv σ (vi (i2sI a)) = Value.int _ := congrArg Value.int (Int32.ofInt_toInt _)
  rw [List.map_cons, e0] at K
  exact K
theorem go_i2l {a : Int} (d : decode cc pc = .ok (.i2l, 1)) (kk : Go l D cA X own cc nL rt B Qa n ρ k z (pc + 1) (L) (vl a :: st) (μ)) : Go l D cA X own cc nL rt B Qa n ρ k z (pc) (L) (vi a :: st) (μ) := by
  intro p e R s m args below meth c Q A n0 σ0 σ H locs ls hC hR hn hσ hW hl hL hst
  obtain ⟨hx, hb, hml, hown, hts, hK, hA, hE, hB, hX⟩ := id hC
  have ha : iR a := ok_hd hst
  exact lv_i2l hx hb d (Int32.toInt64_ofInt ha.1 ha.2) (kk p e R s m args below meth c Q A n0 σ0 σ H locs ls hC hR hn hσ hW hl hL (ok_cons (iR_lR ha) (ok_tl hst)))
theorem go_ladd {a b : Int} (d : decode cc pc = .ok (.ladd, 1)) (hr : lR (a + b)) (kk : Go l D cA X own cc nL rt B Qa n ρ k z (pc + 1) (L) (vl (a + b) :: st) (μ)) : Go l D cA X own cc nL rt B Qa n ρ k z (pc) (L) (vl b :: vl a :: st) (μ) := by
  intro p e R s m args below meth c Q A n0 σ0 σ H locs ls hC hR hn hσ hW hl hL hst
  obtain ⟨hx, hb, hml, hown, hts, hK, hA, hE, hB, hX⟩ := id hC
  refine lv_ladd hx hb d ?_
  rw [← Int64.ofInt_add]
  exact kk p e R s m args below meth c Q A n0 σ0 σ H locs ls hC hR hn hσ hW hl hL (ok_cons hr (ok_tl (ok_tl hst)))
theorem go_lsub {a b : Int} (d : decode cc pc = .ok (.lsub, 1)) (hr : lR (a - b)) (kk : Go l D cA X own cc nL rt B Qa n ρ k z (pc + 1) (L) (vl (a - b) :: st) (μ)) : Go l D cA X own cc nL rt B Qa n ρ k z (pc) (L) (vl b :: vl a :: st) (μ) := by
  intro p e R s m args below meth c Q A n0 σ0 σ H locs ls hC hR hn hσ hW hl hL hst
  obtain ⟨hx, hb, hml, hown, hts, hK, hA, hE, hB, hX⟩ := id hC
  refine lv_lsub hx hb d ?_
  rw [← Int64.ofInt_sub]
  exact kk p e R s m args below meth c Q A n0 σ0 σ H locs ls hC hR hn hσ hW hl hL (ok_cons hr (ok_tl (ok_tl hst)))
theorem go_lmul {a b : Int} (d : decode cc pc = .ok (.lmul, 1)) (hr : lR (a * b)) (kk : Go l D cA X own cc nL rt B Qa n ρ k z (pc + 1) (L) (vl (a * b) :: st) (μ)) : Go l D cA X own cc nL rt B Qa n ρ k z (pc) (L) (vl b :: vl a :: st) (μ) := by
  intro p e R s m args below meth c Q A n0 σ0 σ H locs ls hC hR hn hσ hW hl hL hst
  obtain ⟨hx, hb, hml, hown, hts, hK, hA, hE, hB, hX⟩ := id hC
  refine lv_lmul hx hb d ?_
  rw [← Int64.ofInt_mul]
  exact kk p e R s m args below meth c Q A n0 σ0 σ H locs ls hC hR hn hσ hW hl hL (ok_cons hr (ok_tl (ok_tl hst)))
theorem ol_div {a b : Int} (ha : lR a) (hb : lR b) : Int64.ofInt a / Int64.ofInt b = Int64.ofInt (Int.tdiv a b) := by
  refine (Int64.ofInt_tdiv ?_ ?_ ?_ ?_).symm
  · exact ha.1
  · exact ha.2
  · exact hb.1
  · exact hb.2
theorem ol_rem {a b : Int} (ha : lR a) (hb : lR b) : Int64.ofInt a - Int64.ofInt a / Int64.ofInt b * Int64.ofInt b = Int64.ofInt (Int.tmod a b) := by
  rw [ol_div ha hb, ← Int64.ofInt_mul, ← Int64.ofInt_sub, Int.tmod_def]
  congr 2
  rw [Int.mul_comm]
theorem ol_n0 {b : Int} (hb : lR b) (h : b ≠ 0) : ¬ Int64.ofInt b = 0 := fun e => h ((ol_eq hb (show lR 0 from ⟨by decide, by decide⟩)).mp e)
theorem go_ldiv {a b : Int} (d : decode cc pc = .ok (.ldiv, 1)) (ha : 0 ≤ a) (h0 : 0 < b) (kk : Go l D cA X own cc nL rt B Qa n ρ k z (pc + 1) (L) (vl (a / b) :: st) (μ)) : Go l D cA X own cc nL rt B Qa n ρ k z (pc) (L) (vl b :: vl a :: st) (μ) := by
  intro p e R s m args below meth c Q A n0 σ0 σ H locs ls hC hR hn hσ hW hl hL hst
  obtain ⟨hx, hb, hml, hown, hts, hK, hA, hE, hB, hX⟩ := id hC
  have hra : lR a := ok_hd (ok_tl hst)
  refine lv_ldiv hx hb d (ol_n0 (ok_hd hst) (by omega)) ?_
  rw [ol_div hra (ok_hd hst), Int.tdiv_eq_ediv_of_nonneg ha]
  refine kk p e R s m args below meth c Q A n0 σ0 σ H locs ls hC hR hn hσ hW hl hL (ok_cons ⟨?_, ?_⟩ (ok_tl (ok_tl hst)))
  · have := Int.ediv_nonneg ha (Int.le_of_lt h0); omega
  · have := Int.ediv_le_self b ha; have := hra.2; omega
theorem go_lrem {a b : Int} (d : decode cc pc = .ok (.lrem, 1)) (ha : 0 ≤ a) (h0 : 0 < b) (kk : Go l D cA X own cc nL rt B Qa n ρ k z (pc + 1) (L) (vl (a % b) :: st) (μ)) : Go l D cA X own cc nL rt B Qa n ρ k z (pc) (L) (vl b :: vl a :: st) (μ) := by
  intro p e R s m args below meth c Q A n0 σ0 σ H locs ls hC hR hn hσ hW hl hL hst
  obtain ⟨hx, hb, hml, hown, hts, hK, hA, hE, hB, hX⟩ := id hC
  have hrb : lR b := ok_hd hst
  refine lv_lrem hx hb d (ol_n0 (ok_hd hst) (by omega)) ?_
  rw [ol_rem (ok_hd (ok_tl hst)) hrb, Int.tmod_eq_emod_of_nonneg ha]
  refine kk p e R s m args below meth c Q A n0 σ0 σ H locs ls hC hR hn hσ hW hl hL (ok_cons ⟨?_, ?_⟩ (ok_tl (ok_tl hst)))
  · have := Int.emod_nonneg a (by omega : b ≠ 0); omega
  · have := Int.emod_lt_of_pos a h0; have := hrb.2; omega
def lcI (a b : Int) : Int := if b < a then 1 else if a = b then 0 else -1
theorem go_lcmp {a b : Int} (d : decode cc pc = .ok (.lcmp, 1)) (kk : Go l D cA X own cc nL rt B Qa n ρ k z (pc + 1) (L) (vi (lcI a b) :: st) (μ)) : Go l D cA X own cc nL rt B Qa n ρ k z (pc) (L) (vl b :: vl a :: st) (μ) := by
  intro p e R s m args below meth c Q A n0 σ0 σ H locs ls hC hR hn hσ hW hl hL hst
  obtain ⟨hx, hb, hml, hown, hts, hK, hA, hE, hB, hX⟩ := id hC
  have ha : lR a := ok_hd (ok_tl hst)
  have hb2 : lR b := ok_hd hst
  have e0 : lg_cmp (Int64.ofInt a) (Int64.ofInt b) = Int32.ofInt (lcI a b) := by
    unfold lg_cmp lcI
    by_cases h1 : b < a
    · rw [if_pos (show Int64.ofInt a > Int64.ofInt b from (ol_lt hb2 ha).mpr h1), if_pos h1]; rfl
    · rw [if_neg (show ¬ Int64.ofInt a > Int64.ofInt b from fun h => h1 ((ol_lt hb2 ha).mp h)), if_neg h1]
      by_cases h2 : a = b
      · rw [if_pos (by rw [h2]), if_pos h2]; rfl
      · rw [if_neg (fun h => h2 ((ol_eq ha hb2).mp h)), if_neg h2]; rfl
  refine W.lcmp hx hb d ?_
  rw [e0]
  refine kk p e R s m args below meth c Q A n0 σ0 σ H locs ls hC hR hn hσ hW hl hL (ok_cons ?_ (ok_tl (ok_tl hst)))
  show iR (lcI a b)
  unfold lcI iR
  split
  · omega
  · split <;> omega
theorem go_icmp_eq {a b off : Int} {tgt : Nat} (d : decode cc pc = .ok (.if_icmp .eq off, 3)) (ht : (pc : Int) + off = (tgt : Int)) (kt : a = b → Go l D cA X own cc nL rt B Qa n ρ k z (tgt) (L) (st) (μ)) (kf : ¬ a = b → Go l D cA X own cc nL rt B Qa n ρ k z (pc + 3) (L) (st) (μ)) : Go l D cA X own cc nL rt B Qa n ρ k z (pc) (L) (vi b :: vi a :: st) (μ) := by
  intro p e R s m args below meth c Q A n0 σ0 σ H locs ls hC hR hn hσ hW hl hL hst
  obtain ⟨hx, hb, hml, hown, hts, hK, hA, hE, hB, hX⟩ := id hC
  have ha : iR a := ok_hd (ok_tl hst)
  have hb2 : iR b := ok_hd hst
  exact lv_icmp_eq hx hb d ht (fun h => kt ((oi_eq ha hb2).mp h) p e R s m args below meth c Q A n0 σ0 σ H locs ls hC hR hn hσ hW hl hL (ok_tl (ok_tl hst))) (fun h => kf (fun h2 => h ((oi_eq ha hb2).mpr h2)) p e R s m args below meth c Q A n0 σ0 σ H locs ls hC hR hn hσ hW hl hL (ok_tl (ok_tl hst)))
theorem go_icmp_ne {a b off : Int} {tgt : Nat} (d : decode cc pc = .ok (.if_icmp .ne off, 3)) (ht : (pc : Int) + off = (tgt : Int)) (kt : ¬ a = b → Go l D cA X own cc nL rt B Qa n ρ k z (tgt) (L) (st) (μ)) (kf : a = b → Go l D cA X own cc nL rt B Qa n ρ k z (pc + 3) (L) (st) (μ)) : Go l D cA X own cc nL rt B Qa n ρ k z (pc) (L) (vi b :: vi a :: st) (μ) := by
  intro p e R s m args below meth c Q A n0 σ0 σ H locs ls hC hR hn hσ hW hl hL hst
  obtain ⟨hx, hb, hml, hown, hts, hK, hA, hE, hB, hX⟩ := id hC
  have ha : iR a := ok_hd (ok_tl hst)
  have hb2 : iR b := ok_hd hst
  exact lv_icmp_ne hx hb d ht (fun h => kt (fun h2 => h ((oi_eq ha hb2).mpr h2)) p e R s m args below meth c Q A n0 σ0 σ H locs ls hC hR hn hσ hW hl hL (ok_tl (ok_tl hst))) (fun h => kf ((oi_eq ha hb2).mp h) p e R s m args below meth c Q A n0 σ0 σ H locs ls hC hR hn hσ hW hl hL (ok_tl (ok_tl hst)))
theorem go_icmp_lt {a b off : Int} {tgt : Nat} (d : decode cc pc = .ok (.if_icmp .lt off, 3)) (ht : (pc : Int) + off = (tgt : Int)) (kt : a < b → Go l D cA X own cc nL rt B Qa n ρ k z (tgt) (L) (st) (μ)) (kf : ¬ a < b → Go l D cA X own cc nL rt B Qa n ρ k z (pc + 3) (L) (st) (μ)) : Go l D cA X own cc nL rt B Qa n ρ k z (pc) (L) (vi b :: vi a :: st) (μ) := by
  intro p e R s m args below meth c Q A n0 σ0 σ H locs ls hC hR hn hσ hW hl hL hst
  obtain ⟨hx, hb, hml, hown, hts, hK, hA, hE, hB, hX⟩ := id hC
  have ha : iR a := ok_hd (ok_tl hst)
  have hb2 : iR b := ok_hd hst
  exact lv_icmp_lt hx hb d ht (fun h => kt ((oi_lt ha hb2).mp h) p e R s m args below meth c Q A n0 σ0 σ H locs ls hC hR hn hσ hW hl hL (ok_tl (ok_tl hst))) (fun h => kf (fun h2 => h ((oi_lt ha hb2).mpr h2)) p e R s m args below meth c Q A n0 σ0 σ H locs ls hC hR hn hσ hW hl hL (ok_tl (ok_tl hst)))
theorem go_icmp_ge {a b off : Int} {tgt : Nat} (d : decode cc pc = .ok (.if_icmp .ge off, 3)) (ht : (pc : Int) + off = (tgt : Int)) (kt : b ≤ a → Go l D cA X own cc nL rt B Qa n ρ k z (tgt) (L) (st) (μ)) (kf : ¬ b ≤ a → Go l D cA X own cc nL rt B Qa n ρ k z (pc + 3) (L) (st) (μ)) : Go l D cA X own cc nL rt B Qa n ρ k z (pc) (L) (vi b :: vi a :: st) (μ) := by
  intro p e R s m args below meth c Q A n0 σ0 σ H locs ls hC hR hn hσ hW hl hL hst
  obtain ⟨hx, hb, hml, hown, hts, hK, hA, hE, hB, hX⟩ := id hC
  have ha : iR a := ok_hd (ok_tl hst)
  have hb2 : iR b := ok_hd hst
  exact lv_icmp_ge hx hb d ht (fun h => kt ((oi_le hb2 ha).mp h) p e R s m args below meth c Q A n0 σ0 σ H locs ls hC hR hn hσ hW hl hL (ok_tl (ok_tl hst))) (fun h => kf (fun h2 => h ((oi_le hb2 ha).mpr h2)) p e R s m args below meth c Q A n0 σ0 σ H locs ls hC hR hn hσ hW hl hL (ok_tl (ok_tl hst)))
theorem go_icmp_gt {a b off : Int} {tgt : Nat} (d : decode cc pc = .ok (.if_icmp .gt off, 3)) (ht : (pc : Int) + off = (tgt : Int)) (kt : b < a → Go l D cA X own cc nL rt B Qa n ρ k z (tgt) (L) (st) (μ)) (kf : ¬ b < a → Go l D cA X own cc nL rt B Qa n ρ k z (pc + 3) (L) (st) (μ)) : Go l D cA X own cc nL rt B Qa n ρ k z (pc) (L) (vi b :: vi a :: st) (μ) := by
  intro p e R s m args below meth c Q A n0 σ0 σ H locs ls hC hR hn hσ hW hl hL hst
  obtain ⟨hx, hb, hml, hown, hts, hK, hA, hE, hB, hX⟩ := id hC
  have ha : iR a := ok_hd (ok_tl hst)
  have hb2 : iR b := ok_hd hst
  exact lv_icmp_gt hx hb d ht (fun h => kt ((oi_lt hb2 ha).mp h) p e R s m args below meth c Q A n0 σ0 σ H locs ls hC hR hn hσ hW hl hL (ok_tl (ok_tl hst))) (fun h => kf (fun h2 => h ((oi_lt hb2 ha).mpr h2)) p e R s m args below meth c Q A n0 σ0 σ H locs ls hC hR hn hσ hW hl hL (ok_tl (ok_tl hst)))
theorem go_icmp_le {a b off : Int} {tgt : Nat} (d : decode cc pc = .ok (.if_icmp .le off, 3)) (ht : (pc : Int) + off = (tgt : Int)) (kt : a ≤ b → Go l D cA X own cc nL rt B Qa n ρ k z (tgt) (L) (st) (μ)) (kf : ¬ a ≤ b → Go l D cA X own cc nL rt B Qa n ρ k z (pc + 3) (L) (st) (μ)) : Go l D cA X own cc nL rt B Qa n ρ k z (pc) (L) (vi b :: vi a :: st) (μ) := by
  intro p e R s m args below meth c Q A n0 σ0 σ H locs ls hC hR hn hσ hW hl hL hst
  obtain ⟨hx, hb, hml, hown, hts, hK, hA, hE, hB, hX⟩ := id hC
  have ha : iR a := ok_hd (ok_tl hst)
  have hb2 : iR b := ok_hd hst
  exact lv_icmp_le hx hb d ht (fun h => kt ((oi_le ha hb2).mp h) p e R s m args below meth c Q A n0 σ0 σ H locs ls hC hR hn hσ hW hl hL (ok_tl (ok_tl hst))) (fun h => kf (fun h2 => h ((oi_le ha hb2).mpr h2)) p e R s m args below meth c Q A n0 σ0 σ H locs ls hC hR hn hσ hW hl hL (ok_tl (ok_tl hst)))
theorem go_if_eq {a off : Int} {tgt : Nat} (d : decode cc pc = .ok (.ifCond .eq off, 3)) (ht : (pc : Int) + off = (tgt : Int)) (kt : a = 0 → Go l D cA X own cc nL rt B Qa n ρ k z (tgt) (L) (st) (μ)) (kf : ¬ a = 0 → Go l D cA X own cc nL rt B Qa n ρ k z (pc + 3) (L) (st) (μ)) : Go l D cA X own cc nL rt B Qa n ρ k z (pc) (L) (vi a :: st) (μ) := by
  intro p e R s m args below meth c Q A n0 σ0 σ H locs ls hC hR hn hσ hW hl hL hst
  obtain ⟨hx, hb, hml, hown, hts, hK, hA, hE, hB, hX⟩ := id hC
  have ha : iR a := ok_hd hst
  exact lv_if_eq hx hb d ht (fun h => kt ((oi_eq ha (show iR 0 from ⟨by decide, by decide⟩)).mp h) p e R s m args below meth c Q A n0 σ0 σ H locs ls hC hR hn hσ hW hl hL (ok_tl hst)) (fun h => kf (fun h2 => h ((oi_eq ha (show iR 0 from ⟨by decide, by decide⟩)).mpr h2)) p e R s m args below meth c Q A n0 σ0 σ H locs ls hC hR hn hσ hW hl hL (ok_tl hst))
theorem go_if_ne {a off : Int} {tgt : Nat} (d : decode cc pc = .ok (.ifCond .ne off, 3)) (ht : (pc : Int) + off = (tgt : Int)) (kt : ¬ a = 0 → Go l D cA X own cc nL rt B Qa n ρ k z (tgt) (L) (st) (μ)) (kf : a = 0 → Go l D cA X own cc nL rt B Qa n ρ k z (pc + 3) (L) (st) (μ)) : Go l D cA X own cc nL rt B Qa n ρ k z (pc) (L) (vi a :: st) (μ) := by
  intro p e R s m args below meth c Q A n0 σ0 σ H locs ls hC hR hn hσ hW hl hL hst
  obtain ⟨hx, hb, hml, hown, hts, hK, hA, hE, hB, hX⟩ := id hC
  have ha : iR a := ok_hd hst
  exact lv_if_ne hx hb d ht (fun h => kt (fun h2 => h ((oi_eq ha (show iR 0 from ⟨by decide, by decide⟩)).mpr h2)) p e R s m args below meth c Q A n0 σ0 σ H locs ls hC hR hn hσ hW hl hL (ok_tl hst)) (fun h => kf ((oi_eq ha (show iR 0 from ⟨by decide, by decide⟩)).mp h) p e R s m args below meth c Q A n0 σ0 σ H locs ls hC hR hn hσ hW hl hL (ok_tl hst))
theorem go_if_lt {a off : Int} {tgt : Nat} (d : decode cc pc = .ok (.ifCond .lt off, 3)) (ht : (pc : Int) + off = (tgt : Int)) (kt : a < 0 → Go l D cA X own cc nL rt B Qa n ρ k z (tgt) (L) (st) (μ)) (kf : ¬ a < 0 → Go l D cA X own cc nL rt B Qa n ρ k z (pc + 3) (L) (st) (μ)) : Go l D cA X own cc nL rt B Qa n ρ k z (pc) (L) (vi a :: st) (μ) := by
  intro p e R s m args below meth c Q A n0 σ0 σ H locs ls hC hR hn hσ hW hl hL hst
  obtain ⟨hx, hb, hml, hown, hts, hK, hA, hE, hB, hX⟩ := id hC
  have ha : iR a := ok_hd hst
  exact lv_if_lt hx hb d ht (fun h => kt ((oi_lt ha (show iR 0 from ⟨by decide, by decide⟩)).mp h) p e R s m args below meth c Q A n0 σ0 σ H locs ls hC hR hn hσ hW hl hL (ok_tl hst)) (fun h => kf (fun h2 => h ((oi_lt ha (show iR 0 from ⟨by decide, by decide⟩)).mpr h2)) p e R s m args below meth c Q A n0 σ0 σ H locs ls hC hR hn hσ hW hl hL (ok_tl hst))
theorem go_if_ge {a off : Int} {tgt : Nat} (d : decode cc pc = .ok (.ifCond .ge off, 3)) (ht : (pc : Int) + off = (tgt : Int)) (kt : 0 ≤ a → Go l D cA X own cc nL rt B Qa n ρ k z (tgt) (L) (st) (μ)) (kf : ¬ 0 ≤ a → Go l D cA X own cc nL rt B Qa n ρ k z (pc + 3) (L) (st) (μ)) : Go l D cA X own cc nL rt B Qa n ρ k z (pc) (L) (vi a :: st) (μ) := by
  intro p e R s m args below meth c Q A n0 σ0 σ H locs ls hC hR hn hσ hW hl hL hst
  obtain ⟨hx, hb, hml, hown, hts, hK, hA, hE, hB, hX⟩ := id hC
  have ha : iR a := ok_hd hst
  exact lv_if_ge hx hb d ht (fun h => kt ((oi_le (show iR 0 from ⟨by decide, by decide⟩) ha).mp h) p e R s m args below meth c Q A n0 σ0 σ H locs ls hC hR hn hσ hW hl hL (ok_tl hst)) (fun h => kf (fun h2 => h ((oi_le (show iR 0 from ⟨by decide, by decide⟩) ha).mpr h2)) p e R s m args below meth c Q A n0 σ0 σ H locs ls hC hR hn hσ hW hl hL (ok_tl hst))
theorem go_if_gt {a off : Int} {tgt : Nat} (d : decode cc pc = .ok (.ifCond .gt off, 3)) (ht : (pc : Int) + off = (tgt : Int)) (kt : 0 < a → Go l D cA X own cc nL rt B Qa n ρ k z (tgt) (L) (st) (μ)) (kf : ¬ 0 < a → Go l D cA X own cc nL rt B Qa n ρ k z (pc + 3) (L) (st) (μ)) : Go l D cA X own cc nL rt B Qa n ρ k z (pc) (L) (vi a :: st) (μ) := by
  intro p e R s m args below meth c Q A n0 σ0 σ H locs ls hC hR hn hσ hW hl hL hst
  obtain ⟨hx, hb, hml, hown, hts, hK, hA, hE, hB, hX⟩ := id hC
  have ha : iR a := ok_hd hst
  exact lv_if_gt hx hb d ht (fun h => kt ((oi_lt (show iR 0 from ⟨by decide, by decide⟩) ha).mp h) p e R s m args below meth c Q A n0 σ0 σ H locs ls hC hR hn hσ hW hl hL (ok_tl hst)) (fun h => kf (fun h2 => h ((oi_lt (show iR 0 from ⟨by decide, by decide⟩) ha).mpr h2)) p e R s m args below meth c Q A n0 σ0 σ H locs ls hC hR hn hσ hW hl hL (ok_tl hst))
theorem go_if_le {a off : Int} {tgt : Nat} (d : decode cc pc = .ok (.ifCond .le off, 3)) (ht : (pc : Int) + off = (tgt : Int)) (kt : a ≤ 0 → Go l D cA X own cc nL rt B Qa n ρ k z (tgt) (L) (st) (μ)) (kf : ¬ a ≤ 0 → Go l D cA X own cc nL rt B Qa n ρ k z (pc + 3) (L) (st) (μ)) : Go l D cA X own cc nL rt B Qa n ρ k z (pc) (L) (vi a :: st) (μ) := by
  intro p e R s m args below meth c Q A n0 σ0 σ H locs ls hC hR hn hσ hW hl hL hst
  obtain ⟨hx, hb, hml, hown, hts, hK, hA, hE, hB, hX⟩ := id hC
  have ha : iR a := ok_hd hst
  exact lv_if_le hx hb d ht (fun h => kt ((oi_le ha (show iR 0 from ⟨by decide, by decide⟩)).mp h) p e R s m args below meth c Q A n0 σ0 σ H locs ls hC hR hn hσ hW hl hL (ok_tl hst)) (fun h => kf (fun h2 => h ((oi_le ha (show iR 0 from ⟨by decide, by decide⟩)).mpr h2)) p e R s m args below meth c Q A n0 σ0 σ H locs ls hC hR hn hσ hW hl hL (ok_tl hst))
theorem go_goto {off : Int} {tgt : Nat} (d : decode cc pc = .ok (.goto off, 3)) (ht : (pc : Int) + off = (tgt : Int)) (kk : Go l D cA X own cc nL rt B Qa n ρ k z (tgt) (L) (st) (μ)) : Go l D cA X own cc nL rt B Qa n ρ k z (pc) (L) (st) (μ) := by
  intro p e R s m args below meth c Q A n0 σ0 σ H locs ls hC hR hn hσ hW hl hL hst
  obtain ⟨hx, hb, hml, hown, hts, hK, hA, hE, hB, hX⟩ := id hC
  exact lv_goto hx hb d ht (kk p e R s m args below meth c Q A n0 σ0 σ H locs ls hC hR hn hσ hW hl hL hst)
def tv (P : Prop) (h : Decidable P) : Int := @ite Int P h 1 0
theorem tv_0 {P : Prop} {h : Decidable P} : tv P h = 0 ↔ ¬ P := by
  unfold tv
  by_cases hp : P
  · rw [if_pos hp]; exact ⟨fun e => absurd e (by decide), fun e => absurd hp e⟩
  · rw [if_neg hp]; exact ⟨fun _ => hp, fun _ => rfl⟩
theorem tv_1 {P : Prop} {h : Decidable P} (hp : P) : tv P h = 1 := by unfold tv; rw [if_pos hp]
theorem tv_n {P : Prop} {h : Decidable P} (hp : ¬ P) : tv P h = 0 := by unfold tv; rw [if_neg hp]
theorem tv_01 {P : Prop} {h : Decidable P} : tv P h = 0 ∨ tv P h = 1 := by
  by_cases hp : P
  · exact Or.inr (tv_1 hp)
  · exact Or.inl (tv_n hp)
theorem go_bz {P : Prop} {h : Decidable P} {off : Int} {tgt : Nat} (d : decode cc pc = .ok (.ifCond .eq off, 3)) (ht : (pc : Int) + off = (tgt : Int)) (kt : ¬ P → Go l D cA X own cc nL rt B Qa n ρ k z (tgt) (L) (st) (μ)) (kf : P → Go l D cA X own cc nL rt B Qa n ρ k z (pc + 3) (L) (st) (μ)) : Go l D cA X own cc nL rt B Qa n ρ k z (pc) (L) (vi (tv P h) :: st) (μ) :=
  go_if_eq d ht (fun e => kt (tv_0.mp e)) (fun e => kf (Decidable.of_not_not (fun hp => e (tv_0.mpr hp))))
theorem go_bnz {P : Prop} {h : Decidable P} {off : Int} {tgt : Nat} (d : decode cc pc = .ok (.ifCond .ne off, 3)) (ht : (pc : Int) + off = (tgt : Int)) (kt : P → Go l D cA X own cc nL rt B Qa n ρ k z (tgt) (L) (st) (μ)) (kf : ¬ P → Go l D cA X own cc nL rt B Qa n ρ k z (pc + 3) (L) (st) (μ)) : Go l D cA X own cc nL rt B Qa n ρ k z (pc) (L) (vi (tv P h) :: st) (μ) :=
  go_if_ne d ht (fun e => kt (Decidable.of_not_not (fun hp => e (tv_0.mpr hp)))) (fun e => kf (tv_0.mp e))
theorem go_dup {v : AV} (d : decode cc pc = .ok (.dup, 1)) (hv : ct2 v = false) (kk : Go l D cA X own cc nL rt B Qa n ρ k z (pc + 1) (L) (v :: v :: st) (μ)) : Go l D cA X own cc nL rt B Qa n ρ k z (pc) (L) (v :: st) (μ) := by
  intro p e R s m args below meth c Q A n0 σ0 σ H locs ls hC hR hn hσ hW hl hL hst
  obtain ⟨hx, hb, hml, hown, hts, hK, hA, hE, hB, hX⟩ := id hC
  exact lv_dup hx hb d (by rw [cv_cat, cat, hv]; rfl) (kk p e R s m args below meth c Q A n0 σ0 σ H locs ls hC hR hn hσ hW hl hL (ok_cons (ok_hd hst) hst))
theorem go_pop {v : AV} (d : decode cc pc = .ok (.pop, 1)) (hv : ct2 v = false) (kk : Go l D cA X own cc nL rt B Qa n ρ k z (pc + 1) (L) (st) (μ)) : Go l D cA X own cc nL rt B Qa n ρ k z (pc) (L) (v :: st) (μ) := by
  intro p e R s m args below meth c Q A n0 σ0 σ H locs ls hC hR hn hσ hW hl hL hst
  obtain ⟨hx, hb, hml, hown, hts, hK, hA, hE, hB, hX⟩ := id hC
  exact lv_pop hx hb d (by rw [cv_cat, cat, hv]; rfl) (kk p e R s m args below meth c Q A n0 σ0 σ H locs ls hC hR hn hσ hW hl hL (ok_tl hst))
theorem go_dup2 {v w : AV} (d : decode cc pc = .ok (.dup2, 1)) (hv : ct2 v = false) (hw : ct2 w = false) (kk : Go l D cA X own cc nL rt B Qa n ρ k z (pc + 1) (L) (v :: w :: v :: w :: st) (μ)) : Go l D cA X own cc nL rt B Qa n ρ k z (pc) (L) (v :: w :: st) (μ) := by
  intro p e R s m args below meth c Q A n0 σ0 σ H locs ls hC hR hn hσ hW hl hL hst
  obtain ⟨hx, hb, hml, hown, hts, hK, hA, hE, hB, hX⟩ := id hC
  exact lv_dup2_11 hx hb d (by rw [cv_cat, cat, hv]; rfl) (by rw [cv_cat, cat, hw]; rfl) (kk p e R s m args below meth c Q A n0 σ0 σ H locs ls hC hR hn hσ hW hl hL (ok_cons (ok_hd hst) (ok_cons (ok_hd (ok_tl hst)) hst)))
theorem go_tabIn {dflt lo hi off : Int} {offs : Array Int} {len : Nat} {a : Int} {tgt : Nat} (d : decode cc pc = .ok (.tableswitch dflt lo hi offs, len)) (h1 : lo ≤ a) (h2 : a ≤ hi) (ho : offs[(a - lo).toNat]? = some off) (ht : (pc : Int) + off = (tgt : Int)) (kk : Go l D cA X own cc nL rt B Qa n ρ k z (tgt) (L) (st) (μ)) : Go l D cA X own cc nL rt B Qa n ρ k z (pc) (L) (vi a :: st) (μ) := by
  intro p e R s m args below meth c Q A n0 σ0 σ H locs ls hC hR hn hσ hW hl hL hst
  obtain ⟨hx, hb, hml, hown, hts, hK, hA, hE, hB, hX⟩ := id hC
  have ha : wr a = a := wr_id (ok_hd hst)
  unfold wr at ha
  exact lv_tableIn hx hb d (by rw [ha]; omega) (by rw [ha]; omega) (by rw [ha]; exact ho) ht (kk p e R s m args below meth c Q A n0 σ0 σ H locs ls hC hR hn hσ hW hl hL (ok_tl hst))
theorem go_tabOut {dflt lo hi : Int} {offs : Array Int} {len : Nat} {a : Int} {tgt : Nat} (d : decode cc pc = .ok (.tableswitch dflt lo hi offs, len)) (h : a < lo ∨ hi < a) (ht : (pc : Int) + dflt = (tgt : Int)) (kk : Go l D cA X own cc nL rt B Qa n ρ k z (tgt) (L) (st) (μ)) : Go l D cA X own cc nL rt B Qa n ρ k z (pc) (L) (vi a :: st) (μ) := by
  intro p e R s m args below meth c Q A n0 σ0 σ H locs ls hC hR hn hσ hW hl hL hst
  obtain ⟨hx, hb, hml, hown, hts, hK, hA, hE, hB, hX⟩ := id hC
  have ha : wr a = a := wr_id (ok_hd hst)
  unfold wr at ha
  exact lv_tableOut hx hb d (by rw [ha]; exact h) ht (kk p e R s m args below meth c Q A n0 σ0 σ H locs ls hC hR hn hσ hW hl hL (ok_tl hst))
theorem go_lookup {dflt off : Int} {ps : Array (Int × Int)} {len : Nat} {a : Int} {tgt : Nat} (d : decode cc pc = .ok (.lookupswitch dflt ps, len)) (hp : (ps.toList.zip (ps.toList.drop 1)).all (fun (a, next) => a.1 < next.1) = true) (ho : Op.lookupswitch.offset ps.toList dflt a = off) (ht : (pc : Int) + off = (tgt : Int)) (kk : Go l D cA X own cc nL rt B Qa n ρ k z (tgt) (L) (st) (μ)) : Go l D cA X own cc nL rt B Qa n ρ k z (pc) (L) (vi a :: st) (μ) := by
  intro p e R s m args below meth c Q A n0 σ0 σ H locs ls hC hR hn hσ hW hl hL hst
  obtain ⟨hx, hb, hml, hown, hts, hK, hA, hE, hB, hX⟩ := id hC
  have ha : wr a = a := wr_id (ok_hd hst)
  unfold wr at ha
  exact lv_lookup hx hb d hp (by rw [ha]; exact ho) ht (kk p e R s m args below meth c Q A n0 σ0 σ H locs ls hC hR hn hσ hW hl hL (ok_tl hst))
theorem go_drop {L' : List (Nat × AV)} (kk : Go l D cA X own cc nL rt B Qa n ρ k z (pc) (L') (st) (μ)) (h : L'.map (fun q => lk L q.1) = L'.map (fun q => some q.2)) : Go l D cA X own cc nL rt B Qa n ρ k z (pc) (L) (st) (μ) := by
  intro p e R s m args below meth c Q A n0 σ0 σ H locs ls hC hR hn hσ hW hl hL hst
  have hm : ∀ q ∈ L', lk L q.1 = some q.2 := List.map_inj_left.mp h
  refine kk p e R s m args below meth c Q A n0 σ0 σ H locs ls hC hR hn hσ hW ⟨hl.1, hl.2.1, fun q hq => ?_⟩ (fun q hq => hL q (lk_mem (hm q hq))) hst
  obtain ⟨w, hw, rfl⟩ := List.mem_map.mp hq
  exact lk_val hl (hm w hw)
theorem go_ret {r : Option AV} (d : decode cc pc = .ok (retI r, 1)) (hty : tyOK rt r) (hs : r.toList = st) (hk : k ≤ B.2.1) (hz : z ≤ B.2.2) (hq : Qa r n ρ μ) : Go l D cA X own cc nL rt B Qa n ρ k z (pc) (L) (st) (μ) := by
  intro p e R s m args below meth c Q A n0 σ0 σ H locs ls hC hR hn hσ hW hl hL hst
  subst hs
  exact hR r n ρ μ σ H locs k z pc ls hq hn hσ hW hty (fun v hv => hst v (by rw [hv]; exact List.mem_cons_self)) hk hz d
end Rules
