/-! INSIDE CONSTRUCTORS: the same rules, with the name of the method known -/
section Init
variable {l : Launch} {D : va_G} {cA : Nat → ClassId} {X : XT} {own : String} {cc : ByteArray} {nL : Nat} {rt : Option FieldType} {B : Nat × Nat × Nat} {Qa : QT} {n : Nat} {ρ : RefM} {k z pc : Nat} {L : List (Nat × AV)} {st : List AV} {μ : Mem}
def GoI (l : Launch) (D : va_G) (cA : Nat → ClassId) (X : XT) (own : String) (cc : ByteArray) (nL : Nat) (rt : Option FieldType) (B : Nat × Nat × Nat) (Qa : QT) (n : Nat) (ρ : RefM) (k z : Nat) (pc : Nat) (L : List (Nat × AV)) (st : List AV) (μ : Mem) : Prop :=
  ∀ (p : Program) (e : Env) (R : Room) (s : State) (m : MethodId) (args : Array Value) (below : List Frame) (meth : Method) (c : Code) (Q : State → Prop) (A : Nat → Prop) (n0 : Nat) (σ0 σ : Nat → Nat) (H : Heap) (locs : List Loc) (ls : Array Slot),
    Cx D cA X own cc nL B p R s m args meth c A σ0 → (Rt l D cA cc rt B Qa p e R s m args below meth c Q A n0 σ0 ∧ meth.name = "<init>") → n0 ≤ n → (∀ j, j < n0 ∨ 1000 ≤ j → σ j = σ0 j) → Wd D cA A s.heap H locs σ n ρ μ →
    lv_has ls nL (L.map (fun q => (q.1, cv σ q.2))) → (∀ q ∈ L, aok n q.2) → (∀ v ∈ st, aok n v) → W p l e R s m args below meth c H locs k z Q (F0 m pc ls (st.map (cv σ)))
abbrev KTI (l : Launch) (D : va_G) (cA : Nat → ClassId) (X : XT) (own : String) (cc : ByteArray) (nL : Nat) (rt : Option FieldType) (B B' : Nat × Nat × Nat) (Qa Qb : QT) (n k z pc : Nat) (L : List (Nat × AV)) (st : List AV) : Prop :=
  ∀ (r : Option AV) (n' : Nat) (ρ' : RefM) (μ' : Mem), Qb r n' ρ' μ' → n ≤ n' → GoI l D cA X own cc nL rt B Qa n' ρ' (k + B'.2.1) (z + B'.2.2) (pc + 3) L (r.toList ++ st) μ'
theorem gi_iconst {v : Int} (d : decode cc pc = .ok (.iconst v, 1)) (hv : iRb v = true) (kk : GoI l D cA X own cc nL rt B Qa n ρ k z (pc + 1) (L) (vi v :: st) (μ)) : GoI l D cA X own cc nL rt B Qa n ρ k z (pc) (L) (st) (μ) := by
  intro p e R s m args below meth c Q A n0 σ0 σ H locs ls hC hR hn hσ hW hl hL hst
  obtain ⟨hx, hb, hml, hown, hts, hK, hA, hE, hB, hX⟩ := id hC
  exact lv_iconst hx hb d rfl (kk p e R s m args below meth c Q A n0 σ0 σ H locs ls hC hR hn hσ hW hl hL (ok_cons (iR_of hv) hst))
theorem gi_bipush {v : Int} (d : decode cc pc = .ok (.bipush v, 2)) (hv : iRb v = true) (he : (Int8.ofInt v).toInt32 = Int32.ofInt v) (kk : GoI l D cA X own cc nL rt B Qa n ρ k z (pc + 2) (L) (vi v :: st) (μ)) : GoI l D cA X own cc nL rt B Qa n ρ k z (pc) (L) (st) (μ) := by
  intro p e R s m args below meth c Q A n0 σ0 σ H locs ls hC hR hn hσ hW hl hL hst
  obtain ⟨hx, hb, hml, hown, hts, hK, hA, hE, hB, hX⟩ := id hC
  exact lv_bipush hx hb d he (kk p e R s m args below meth c Q A n0 σ0 σ H locs ls hC hR hn hσ hW hl hL (ok_cons (iR_of hv) hst))
theorem gi_sipush {v : Int} (d : decode cc pc = .ok (.sipush v, 3)) (hv : iRb v = true) (he : (Int16.ofInt v).toInt32 = Int32.ofInt v) (kk : GoI l D cA X own cc nL rt B Qa n ρ k z (pc + 3) (L) (vi v :: st) (μ)) : GoI l D cA X own cc nL rt B Qa n ρ k z (pc) (L) (st) (μ) := by
  intro p e R s m args below meth c Q A n0 σ0 σ H locs ls hC hR hn hσ hW hl hL hst
  obtain ⟨hx, hb, hml, hown, hts, hK, hA, hE, hB, hX⟩ := id hC
  exact lv_sipush hx hb d he (kk p e R s m args below meth c Q A n0 σ0 σ H locs ls hC hR hn hσ hW hl hL (ok_cons (iR_of hv) hst))
theorem gi_aload_n {i : Fin 4} {x : Nat} (d : decode cc pc = .ok (.aload_n i, 1)) (h : lk L (i : Nat) = some (vr x)) (kk : GoI l D cA X own cc nL rt B Qa n ρ k z (pc + 1) (L) (vr x :: st) (μ)) : GoI l D cA X own cc nL rt B Qa n ρ k z (pc) (L) (st) (μ) := by
  intro p e R s m args below meth c Q A n0 σ0 σ H locs ls hC hR hn hσ hW hl hL hst
  obtain ⟨hx, hb, hml, hown, hts, hK, hA, hE, hB, hX⟩ := id hC
  exact lv_aload_n hx hb d rfl (lk_val hl h) (kk p e R s m args below meth c Q A n0 σ0 σ H locs ls hC hR hn hσ hW hl hL (ok_cons (lk_ok hL h) hst))
theorem gi_iload_n {i : Fin 4} {x : Int} (d : decode cc pc = .ok (.iload_n i, 1)) (h : lk L (i : Nat) = some (vi x)) (kk : GoI l D cA X own cc nL rt B Qa n ρ k z (pc + 1) (L) (vi x :: st) (μ)) : GoI l D cA X own cc nL rt B Qa n ρ k z (pc) (L) (st) (μ) := by
  intro p e R s m args below meth c Q A n0 σ0 σ H locs ls hC hR hn hσ hW hl hL hst
  obtain ⟨hx, hb, hml, hown, hts, hK, hA, hE, hB, hX⟩ := id hC
  exact lv_iload_n hx hb d rfl (lk_val hl h) (kk p e R s m args below meth c Q A n0 σ0 σ H locs ls hC hR hn hσ hW hl hL (ok_cons (lk_ok hL h) hst))
theorem gi_istore_n {i : Fin 4} {x : Int} (d : decode cc pc = .ok (.istore_n i, 1)) (hi : Nat.blt i nL = true) (kk : GoI l D cA X own cc nL rt B Qa n ρ k z (pc + 1) (sto i (vi x) L) (st) (μ)) : GoI l D cA X own cc nL rt B Qa n ρ k z (pc) (L) (vi x :: st) (μ) := by
  intro p e R s m args below meth c Q A n0 σ0 σ H locs ls hC hR hn hσ hW hl hL hst
  obtain ⟨hx, hb, hml, hown, hts, hK, hA, hE, hB, hX⟩ := id hC
  exact lv_istore_n hx hb d rfl hl (Nat.le_of_ble_eq_true hi) rfl (fun ls' hl' => kk p e R s m args below meth c Q A n0 σ0 σ H locs ls' hC hR hn hσ hW (sto_has (v := vi x) hl') (sto_ok (ok_hd hst) hL) (ok_tl hst))
theorem gi_iinc {i : Nat} {w x : Int} (d : decode cc pc = .ok (.iinc i w, 3)) (h : lk L i = some (vi x)) (hi : Nat.blt i nL = true) (hr : iR (x + w)) (kk : GoI l D cA X own cc nL rt B Qa n ρ k z (pc + 3) (sto i (vi (x + w)) L) (st) (μ)) : GoI l D cA X own cc nL rt B Qa n ρ k z (pc) (L) (st) (μ) := by
  intro p e R s m args below meth c Q A n0 σ0 σ H locs ls hC hR hn hσ hW hl hL hst
  obtain ⟨hx, hb, hml, hown, hts, hK, hA, hE, hB, hX⟩ := id hC
  obtain ⟨j, hj⟩ := List.getElem?_of_mem (lk_mem h)
  have hj2 : (L.map (fun q => (q.1, cv σ q.2)))[j]? = some (i, .int (Int32.ofInt x)) := by rw [List.getElem?_map, hj]; rfl
  exact lv_iinc (v := Int32.ofInt (x + w)) hx hb d hl hj2 (Int32.ofInt_add x w).symm (Nat.le_of_ble_eq_true hi) rfl (fun ls' hl' => kk p e R s m args below meth c Q A n0 σ0 σ H locs ls' hC hR hn hσ hW (sto_has (v := vi (x + w)) hl') (sto_ok hr hL) hst)
theorem gi_icmp_ge {a b off : Int} {tgt : Nat} (d : decode cc pc = .ok (.if_icmp .ge off, 3)) (ht : (pc : Int) + off = (tgt : Int)) (kt : b ≤ a → GoI l D cA X own cc nL rt B Qa n ρ k z (tgt) (L) (st) (μ)) (kf : ¬ b ≤ a → GoI l D cA X own cc nL rt B Qa n ρ k z (pc + 3) (L) (st) (μ)) : GoI l D cA X own cc nL rt B Qa n ρ k z (pc) (L) (vi b :: vi a :: st) (μ) := by
  intro p e R s m args below meth c Q A n0 σ0 σ H locs ls hC hR hn hσ hW hl hL hst
  obtain ⟨hx, hb, hml, hown, hts, hK, hA, hE, hB, hX⟩ := id hC
  have ha : iR a := ok_hd (ok_tl hst)
  have hb2 : iR b := ok_hd hst
  exact lv_icmp_ge hx hb d ht (fun h => kt ((oi_le hb2 ha).mp h) p e R s m args below meth c Q A n0 σ0 σ H locs ls hC hR hn hσ hW hl hL (ok_tl (ok_tl hst))) (fun h => kf (fun h2 => h ((oi_le hb2 ha).mpr h2)) p e R s m args below meth c Q A n0 σ0 σ H locs ls hC hR hn hσ hW hl hL (ok_tl (ok_tl hst)))
theorem gi_goto {off : Int} {tgt : Nat} (d : decode cc pc = .ok (.goto off, 3)) (ht : (pc : Int) + off = (tgt : Int)) (kk : GoI l D cA X own cc nL rt B Qa n ρ k z (tgt) (L) (st) (μ)) : GoI l D cA X own cc nL rt B Qa n ρ k z (pc) (L) (st) (μ) := by
  intro p e R s m args below meth c Q A n0 σ0 σ H locs ls hC hR hn hσ hW hl hL hst
  obtain ⟨hx, hb, hml, hown, hts, hK, hA, hE, hB, hX⟩ := id hC
  exact lv_goto hx hb d ht (kk p e R s m args below meth c Q A n0 σ0 σ H locs ls hC hR hn hσ hW hl hL hst)
theorem gi_dup {v : AV} (d : decode cc pc = .ok (.dup, 1)) (hv : ct2 v = false) (kk : GoI l D cA X own cc nL rt B Qa n ρ k z (pc + 1) (L) (v :: v :: st) (μ)) : GoI l D cA X own cc nL rt B Qa n ρ k z (pc) (L) (v :: st) (μ) := by
  intro p e R s m args below meth c Q A n0 σ0 σ H locs ls hC hR hn hσ hW hl hL hst
  obtain ⟨hx, hb, hml, hown, hts, hK, hA, hE, hB, hX⟩ := id hC
  exact lv_dup hx hb d (by rw [cv_cat, cat, hv]; rfl) (kk p e R s m args below meth c Q A n0 σ0 σ H locs ls hC hR hn hσ hW hl hL (ok_cons (ok_hd hst) hst))
theorem gi_ret {r : Option AV} (d : decode cc pc = .ok (retI r, 1)) (hty : tyOK rt r) (hs : r.toList = st) (hk : k ≤ B.2.1) (hz : z ≤ B.2.2) (hq : Qa r n ρ μ) : GoI l D cA X own cc nL rt B Qa n ρ k z (pc) (L) (st) (μ) := by
  intro p e R s m args below meth c Q A n0 σ0 σ H locs ls hC hR hn hσ hW hl hL hst
  subst hs
  exact hR.1 r n ρ μ σ H locs k z pc ls hq hn hσ hW hty (fun v hv => hst v (by rw [hv]; exact List.mem_cons_self)) hk hz d
theorem gi_drop {L' : List (Nat × AV)} (kk : GoI l D cA X own cc nL rt B Qa n ρ k z (pc) (L') (st) (μ)) (h : L'.map (fun q => lk L q.1) = L'.map (fun q => some q.2)) : GoI l D cA X own cc nL rt B Qa n ρ k z (pc) (L) (st) (μ) := by
  intro p e R s m args below meth c Q A n0 σ0 σ H locs ls hC hR hn hσ hW hl hL hst
  have hm : ∀ q ∈ L', lk L q.1 = some q.2 := List.map_inj_left.mp h
  refine kk p e R s m args below meth c Q A n0 σ0 σ H locs ls hC hR hn hσ hW ⟨hl.1, hl.2.1, fun q hq => ?_⟩ (fun q hq => hL q (lk_mem (hm q hq))) hst
  obtain ⟨w, hw, rfl⟩ := List.mem_map.mp hq
  exact lk_val hl (hm w hw)
theorem gi_getv {index ci kf i N : Nat} {C : String} {T : u_T} {v : AV} (d : decode cc pc = .ok (.getfield index, 3)) (F : FL own index ci kf C T N) (hi : i < n) (hs : shp i = (ci, N)) (hv : ∀ σ, fvl σ (ρ i) (μ i) ci kf = cv σ v) (hav : okM μ → okP n ρ → aok n v) (kk : GoI l D cA X own cc nL rt B Qa n ρ k z (pc + 3) L (v :: st) μ) : GoI l D cA X own cc nL rt B Qa n ρ k z pc L (vr i :: st) μ := by
  intro p e R s m args below meth c Q A n0 σ0 σ H locs ls hC hR hn hσ hW hl hL hst
  obtain ⟨hx, hb, hml, hown, hts, hK, hA, hE, hB, hX⟩ := id hC
  obtain ⟨hc, hk, hin, hci, hC1, hlk⟩ := F
  have he := wl_o (cA := cA) (ρ := ρ) (μ := μ) (σ := σ) hi hs hci
  have K := kk p e R s m args below meth c Q A n0 σ0 σ H locs ls hC hR hn hσ hW hl hL (ok_cons (hav hW.2.2.2.1 hW.2.2.2.2) (ok_tl hst))
  have hv2 := (fvl_at (σ := σ) (ρ := ρ i) (f := μ i) (ci := ci) hk).trans (congrArg some (hv σ))
  rcases hlk with hlk | hlk
  · exact va_get (T := T) (N := N) hx hb hts hin hown hK hW.1 i he hc kf hk (hts _ hlk) (fun x h => by rw [hC1] at h; exact h) hv2 d K
  · exact va_getN (T := T) (N := N) hx hb hts hin hown hK hW.1 i he hc kf hk (va_Nw.use rfl (hE.1 _ hlk rfl)) (fun x h => by rw [hC1] at h; exact h) hv2 d K
theorem gi_getR {index ci kf i j N : Nat} {C : String} {T : u_T} (d : decode cc pc = .ok (.getfield index, 3)) (F : FL own index ci kf C T N) (hi : i < n) (hs : shp i = (ci, N)) (hr : isRf ci kf = true) (hj : ρ i (kf : Nat) = some j) (kk : GoI l D cA X own cc nL rt B Qa n ρ k z (pc + 3) L (vr j :: st) μ) : GoI l D cA X own cc nL rt B Qa n ρ k z pc L (vr i :: st) μ :=
  gi_getv (v := vr j) d F hi hs (fun σ => by unfold fvl; rw [hr, hj]; rfl) (fun _ h => Or.inl (h i (kf : Nat) j hj)) kk
theorem gi_putv {index ci kf i N : Nat} {C : String} {T : u_T} {x : Int} {ty : FieldType} (d : decode cc pc = .ok (.putfield index, 3)) (F : PL own index ci kf C T N ty) (hn1 : narrow ty (.int (Int32.ofInt x)) = .int (Int32.ofInt x)) (hf1 : fits ty (.int (Int32.ofInt x)) = true) (hi : i < n) (hs : shp i = (ci, N)) (hr : isRf ci kf = false) (kk : GoI l D cA X own cc nL rt B Qa n ρ k z (pc + 3) L st (ud μ i (kf : Nat) x)) : GoI l D cA X own cc nL rt B Qa n ρ k z pc L (vi x :: vr i :: st) μ := by
  intro p e R s m args below meth c Q A n0 σ0 σ H locs ls hC hR hn hσ hW hl hL hst
  obtain ⟨hx, hb, hml, hown, hts, hK, hA, hE, hB, hX⟩ := id hC
  obtain ⟨⟨hc, hk, hin, hci, hC1, hlk⟩, ⟨ty0, hty⟩, hnm, hfin, hd⟩ := F
  have he := wl_o (cA := cA) (ρ := ρ) (μ := μ) (σ := σ) hi hs hci
  have hlen : kf < ((List.range N).map (fvl σ (ρ i) (μ i) ci)).length := by simp; exact hk
  have hset : (wl cA n σ ρ μ).set i (σ i, .inr (ci, ((List.range N).map (fvl σ (ρ i) (μ i) ci)).set kf (.int (Int32.ofInt x)))) = wl cA n σ ρ (ud μ i (kf : Nat) x) := wl_set (by rw [fvl_set hr, hs, ent_o hci])
  have hxr : iR x := ok_hd hst
  have K := fun H1 locs1 hP1 hD1 hS1 => kk p e R s m args below meth c Q A n0 σ0 σ H1 locs1 ls hC hR hn hσ (hW.upd hset (okM_ud hW.2.2.2.1 hxr) hP1 hD1 hS1) hl hL (ok_tl (ok_tl hst))
  rcases hlk with hlk | hlk
  · exact va_put (T := T) (N := N) hx hb hts hin ty0 hty hnm hown hK hW.1 hW.2.1 hW.2.2.1 i he hc kf hk (hts _ hlk) (fun x h => by rw [hC1] at h; exact h) hfin hd hn1 hf1 hlen d K
  · exact va_putN (T := T) (N := N) hx hb hts hin ty0 hty hnm hown hK hW.1 hW.2.1 hW.2.2.1 i he hc kf hk (va_Nw.use rfl (hE.1 _ hlk rfl)) (fun x h => by rw [hC1] at h; exact h) hfin hd hn1 hf1 hlen d K
theorem gi_putI {index ci kf i N : Nat} (kz : Int) {C : String} {T : u_T} {x : Int} (d : decode cc pc = .ok (.putfield index, 3)) (F : PL own index ci kf C T N .int) (hi : i < n) (hs : shp i = (ci, N)) (hr : isRf ci kf = false) (hz : ((kf : Nat) : Int) = kz) (kk : GoI l D cA X own cc nL rt B Qa n ρ k z (pc + 3) L st (ud μ i kz x)) : GoI l D cA X own cc nL rt B Qa n ρ k z pc L (vi x :: vr i :: st) μ :=
  by subst hz; exact gi_putv d F rfl rfl hi hs hr kk
theorem gi_iastore {i N : Nat} {a x : Int} (d : decode cc pc = .ok (.iastore, 1)) (hi : i < n) (hs : shp i = (20, N)) (h0 : 0 ≤ a) (h1 : a < (N : Nat)) (kk : GoI l D cA X own cc nL rt B Qa n ρ k z (pc + 1) L st (ud μ i a x)) : GoI l D cA X own cc nL rt B Qa n ρ k z pc L (vi x :: vi a :: vr i :: st) μ := by
  intro p e R s m args below meth c Q A n0 σ0 σ H locs ls hC hR hn hσ hW hl hL hst
  obtain ⟨hx, hb, hml, hown, hts, hK, hA, hE, hB, hX⟩ := id hC
  have ha : iR a := ok_hd (ok_tl hst)
  have hset : (wl cA n σ ρ μ).set i (σ i, .inl (cA 0, N, .inl (upd (fun j => Int32.ofInt (μ i (j : Nat))) (Int32.ofInt a).toNatClampNeg (Int32.ofInt x)))) = wl cA n σ ρ (ud μ i a x) := wl_set (by rw [upd_of h0 ha, hs, ent_i])
  exact va_iast hx hb hK hW.1 hW.2.1 hW.2.2.1 i 0 (wl_i hi hs) rfl (oi_in h0 h1 ha) d (fun H1 locs1 hP1 hD1 hS1 => kk p e R s m args below meth c Q A n0 σ0 σ H1 locs1 ls hC hR hn hσ (hW.upd hset (okM_ud hW.2.2.2.1 (ok_hd hst)) hP1 hD1 hS1) hl hL (ok_tl (ok_tl (ok_tl hst))))
theorem gi_call {index nL' : Nat} {y : MethodName} {cc' : ByteArray} {rt' : Option FieldType} {B' : Nat × Nat × Nat} {Qb : QT} {as : List AV} {ins : Instr} {stk : List AV}
    (hrun : ∀ (p : Program) (e : Env) (R : Room) (s : State) (m : MethodId) (args : Array Value) (below : List Frame) (meth : Method) (c : Code) (A : Nat → Prop) (σ0 σ : Nat → Nat) (H : Heap) (locs : List Loc) (ls : Array Slot), Cx D cA X own cc nL B p R s m args meth c A σ0 → Ev σ A s s.heap → Wd D cA A s.heap H locs σ n ρ μ → ls.size = nL → (∀ v ∈ stk, aok n v) →
      Met l y (Cond.code y cc' nL' rt' :: TB) (Rm B') (va_Pc (as.map (cv σ)) (Pre D cA n ρ μ σ H.size)) (Qcc D cA n σ ρ μ H.size Qb) B'.2.1 B'.2.2 (va_A (wl cA n σ ρ μ) H.size) →
      va_Run p l e R s m args below meth c H locs k z B'.2.1 B'.2.2 (F0 m pc ls (stk.map (cv σ))) (st.map (cv σ)) (Qcc D cA n σ ρ μ H.size Qb (as.map (cv σ)).toArray) (va_A (wl cA n σ ρ μ) H.size))
    (hc : Ct l D cA y cc' nL' rt' B' n ρ as μ Qb) (hstk : stk = as.reverse ++ st) (kk : KTI l D cA X own cc nL rt B B' Qa Qb n k z pc L st) : GoI l D cA X own cc nL rt B Qa n ρ k z pc L stk μ := by
  intro p e R s m args below meth c Q A n0 σ0 σ H locs ls hC hR hn hσ hW hl hL hst
  obtain ⟨hx, hb, hml, hown, hts, hK, hA, hE, hB, hX⟩ := id hC
  have hE2 : Ev σ A s s.heap := hE.ext (fun j hj => hσ j (Or.inr hj))
  have has : ∀ v ∈ as, aok n v := fun v hv => hst v (by rw [hstk]; exact List.mem_append_left _ (List.mem_reverse.mpr hv))
  have hst2 : ∀ v ∈ st, aok n v := fun v hv => hst v (by rw [hstk]; exact List.mem_append_right _ hv)
  refine w_call (hrun p e R s m args below meth c A σ0 σ H locs ls hC hE2 hW hl.1 hst (hc hW.2.2.2.1 hW.2.2.2.2 has σ H.size)) hW.2.2.1 hA hW.2.1 ?_
  intro r n' ρ' μ' σ' H1 locs1 hq hnn hσ' hW1 hok
  have K := kk r n' ρ' μ' hq hnn p e R s m args below meth c Q A n0 σ0 σ' H1 locs1 ls hC hR (Nat.le_trans hn hnn) (fun j hj => (hσ' j (hj.elim (fun h => Or.inl (Nat.lt_of_lt_of_le h hn)) Or.inr)).trans (hσ j hj)) hW1 (by rw [← mapL_same hσ' hL]; exact hl) (fun q hq => aok_mono hnn (hL q hq)) (fun v hv => by
    rcases List.mem_append.mp hv with h | h
    · cases r with
      | none => cases h
      | some w => rw [List.mem_singleton.mp h]; exact hok w rfl
    · exact aok_mono hnn (hst2 v h))
  rw [map_same hσ' hst2]
  have e0 : (r.toList ++ st).map (cv σ') = (r.map (cv σ')).toList ++ st.map (cv σ') := by cases r <;> rfl
  rw [e0] at K
  exact K
theorem wi_grow {p : Program} {e : Env} {R : Room} {s : State} {m : MethodId} {args : Array Value} {below : List Frame} {meth : Method} {c : Code} {Q : State → Prop} {A : Nat → Prop} {n0 : Nat} {σ0 σ : Nat → Nat} {H1 : Heap} {locs : List Loc} {ls : Array Slot} {q : Nat} {E : va_E} {k' z' pc' : Nat}
    (kk : GoI l D cA X own cc nL rt B Qa (n + 1) (uR ρ n (fun _ => none)) k' z' pc' L (vr n :: st) (ua μ n (fun _ => 0))) (hn1 : n < 1000) (hEn : ent cA (nx σ n q) (fun _ => none) (fun _ => 0) (shp n) = E)
    (hC : Cx D cA X own cc nL B p R s m args meth c A σ0) (hR : Rt l D cA cc rt B Qa p e R s m args below meth c Q A n0 σ0 ∧ meth.name = "<init>") (hn : n0 ≤ n) (hσ : ∀ j, j < n0 ∨ 1000 ≤ j → σ j = σ0 j) (hM : okM μ) (hP : okP n ρ)
    (h1 : va_P D vwCl (wl cA n σ ρ μ ++ [(q, E)]) H1) (h2 : va_D A (wl cA n σ ρ μ ++ [(q, E)])) (h3 : va_S A s.heap H1 locs)
    (hl : lv_has ls nL (L.map (fun q => (q.1, cv σ q.2)))) (hL : ∀ q ∈ L, aok n q.2) (hst : ∀ v ∈ st, aok n v) : W p l e R s m args below meth c H1 locs k' z' Q (F0 m pc' ls (.ref q :: st.map (cv σ))) := by
  have hs : ∀ j, j < n ∨ 1000 ≤ j → nx σ n q j = σ j := fun j hj => nx_n (by omega)
  have hw : wl cA (n + 1) (nx σ n q) (uR ρ n (fun _ => none)) (ua μ n (fun _ => 0)) = wl cA n σ ρ μ ++ [(q, E)] := wl_app (fun j hj => hs j (Or.inl hj)) hP (fun i hi => uR_n (by omega)) (fun i hi => ua_ne (by omega)) (if_pos rfl) (by rw [uR_s, ua_same]; exact hEn)
  have hm : okM (ua μ n (fun _ => 0)) := fun i j => by
    unfold ua
    by_cases e : i = n
    · rw [if_pos e]; exact ⟨by decide, by decide⟩
    · rw [if_neg e]; exact hM i j
  have hp : okP (n + 1) (uR ρ n (fun _ => none)) := fun i a j h => by
    unfold uR at h
    by_cases e : i = n
    · rw [if_pos e] at h; cases h
    · rw [if_neg e] at h; exact Nat.lt_succ_of_lt (hP i a j h)
  have K := kk p e R s m args below meth c Q A n0 σ0 (nx σ n q) H1 locs ls hC hR (by omega) (fun j hj => (hs j (by omega)).trans (hσ j hj)) ⟨by rw [hw]; exact h1, by rw [hw]; exact h2, h3, hm, hp⟩ (by rw [← mapL_same hs hL]; exact hl) (fun q hq => aok_mono (Nat.le_succ n) (hL q hq)) (fun v hv => by
    rcases List.mem_cons.mp hv with h | h
    · rw [h]; exact Or.inl (Nat.lt_succ_self n)
    · exact aok_mono (Nat.le_succ n) (hst v h))
  rw [map_same hs hst]
  have e0 : (vr n :: st).map (cv (nx σ n q)) = .ref q :: st.map (cv (nx σ n q)) := by
    show Value.ref (nx σ n q n) :: _ = _
    rw [show nx σ n q n = q from if_pos rfl]
  rw [e0] at K
  exact K
theorem gi_new {index ci N : Nat} {C : String} {T : u_T} (d : decode cc pc = .ok (.new index, 3)) (F : NW own index ci C T N) (hs : shp n = (ci, N)) (hn1 : n < 1000) (hk : k + 1 ≤ B.2.1 ∧ z + N ≤ B.2.2) (kk : GoI l D cA X own cc nL rt B Qa (n + 1) (uR ρ n (fun _ => none)) (k + 1) (z + N) (pc + 3) L (vr n :: st) (ua μ n (fun _ => 0))) : GoI l D cA X own cc nL rt B Qa (n) (ρ) (k) (z) (pc) L (st) (μ) := by
  intro p e R s m args below meth c Q A n0 σ0 σ H locs ls hC hR hn hσ hW hl hL hst
  obtain ⟨hx, hb, hml, hown, hts, hK, hA, hE, hB, hX⟩ := id hC
  obtain ⟨hc, hci, hin, hcl, hinst, hini, ty, hty, hdf⟩ := F
  refine va_new (T := T) (N := N) hx hb hts hin ty hty hown (hts _ hcl) (hts _ hinst) (hts _ hini) hK hW.1 hW.2.1 hW.2.2.1 hA hc (fs := (List.range N).map (fvl σ (fun _ => none) (fun _ => 0) ci)) ?_ (Nat.le_trans hk.1 hB.2.2.1) (Nat.le_trans hk.2 hB.2.2.2) d ?_
  · intro j hj
    have e : vp_V ((List.range N).map (fvl σ (fun _ => none) (fun _ => 0) ci)) j = fvl σ (fun _ => none) (fun _ => 0) ci j := by
      unfold vp_V
      rw [List.getD_eq_getElem?_getD, fvl_at hj]
      rfl
    rw [hdf j hj, e]
    unfold fvl
    split <;> rfl
  · intro q H1 hP1 hD1 hS1
    refine wi_grow kk hn1 ?_ hC hR hn hσ hW.2.2.2.1 hW.2.2.2.2 hP1 hD1 hS1 hl hL hst
    rw [hs, ent_o hci]
    have e : fvl (nx σ n q) (fun _ => none) (fun _ => 0) ci = fvl σ (fun _ => none) (fun _ => 0) ci := rfl
    rw [e]
theorem gi_newI {a : Int} {N : Nat} (d : decode cc pc = .ok (.newarray .int, 2)) (hw : Cond.arrayClass .int ∈ TB) (ha : a = (N : Nat)) (hN : N ≤ 4000) (hs : shp n = (20, N)) (hn1 : n < 1000) (hk : k + 1 ≤ B.2.1 ∧ z + N ≤ B.2.2) (kk : GoI l D cA X own cc nL rt B Qa (n + 1) (uR ρ n (fun _ => none)) (k + 1) (z + N) (pc + 2) L (vr n :: st) (ua μ n (fun _ => 0))) : GoI l D cA X own cc nL rt B Qa (n) (ρ) (k) (z) (pc) L (vi a :: st) (μ) := by
  intro p e R s m args below meth c Q A n0 σ0 σ H locs ls hC hR hn hσ hW hl hL hst
  obtain ⟨hx, hb, hml, hown, hts, hK, hA, hE, hB, hX⟩ := id hC
  have har : iR a := ok_hd hst
  refine va_newa (atype := .int) (ty := .int) (a0 := (N, .inl (fun _ => 0))) hx hb (hts _ hw) rfl hK hW.1 hW.2.1 hW.2.2.1 hA (fun _ => rfl) ?_ (by rw [oi_nat har]; omega) (by show N * 4 ≤ _; omega) (Nat.le_trans hk.1 hB.2.2.1) (Nat.le_trans hk.2 hB.2.2.2) d ?_
  · intro h
    have := (oi_lt har (show iR 0 from ⟨by decide, by decide⟩)).mp h
    omega
  · intro q c0 H1 hK1 hP1 hD1 hS1
    have e := ca_int hK hK1
    subst e
    exact wi_grow kk hn1 (by rw [hs, ent_i]; rfl) hC hR hn hσ hW.2.2.2.1 hW.2.2.2.2 hP1 hD1 hS1 hl hL (ok_tl hst)
theorem gi_newZ {a : Int} {N : Nat} (d : decode cc pc = .ok (.newarray .boolean, 2)) (hw : Cond.arrayClass .boolean ∈ TB) (ha : a = (N : Nat)) (hN : N ≤ 4000) (hs : shp n = (21, N)) (hn1 : n < 1000) (hk : k + 1 ≤ B.2.1 ∧ z + N ≤ B.2.2) (kk : GoI l D cA X own cc nL rt B Qa (n + 1) (uR ρ n (fun _ => none)) (k + 1) (z + N) (pc + 2) L (vr n :: st) (ua μ n (fun _ => 0))) : GoI l D cA X own cc nL rt B Qa (n) (ρ) (k) (z) (pc) L (vi a :: st) (μ) := by
  intro p e R s m args below meth c Q A n0 σ0 σ H locs ls hC hR hn hσ hW hl hL hst
  obtain ⟨hx, hb, hml, hown, hts, hK, hA, hE, hB, hX⟩ := id hC
  have har : iR a := ok_hd hst
  refine va_newa (atype := .boolean) (ty := .boolean) (a0 := (N, .inl (fun _ => 0))) hx hb (hts _ hw) rfl hK hW.1 hW.2.1 hW.2.2.1 hA (fun _ => rfl) ?_ (by rw [oi_nat har]; omega) (by show N * 1 ≤ _; omega) (Nat.le_trans hk.1 hB.2.2.1) (Nat.le_trans hk.2 hB.2.2.2) d ?_
  · intro h
    have := (oi_lt har (show iR 0 from ⟨by decide, by decide⟩)).mp h
    omega
  · intro q c0 H1 hK1 hP1 hD1 hS1
    have e := ca_bool hK hK1
    subst e
    exact wi_grow kk hn1 (by rw [hs, ent_z]; rfl) hC hR hn hσ hW.2.2.2.1 hW.2.2.2.2 hP1 hD1 hS1 hl hL (ok_tl hst)
theorem gi_newQ {index : Nat} {a : Int} {N t : Nat} {C : String} (d : decode cc pc = .ok (.anewarray index, 3)) (hw : Cond.classLink own index C ∈ TB) (hC0 : (["WhiteSlope$Law", "WhiteSlope$Sheet", "WhiteSlope$Slot"])[t]? = some C) (ha : a = (N : Nat)) (hN : N ≤ 4000) (hs : shp n = (t + 22, N)) (hn1 : n < 1000) (hk : k + 1 ≤ B.2.1 ∧ z + N ≤ B.2.2) (kk : GoI l D cA X own cc nL rt B Qa (n + 1) (uR ρ n (fun _ => none)) (k + 1) (z + N) (pc + 3) L (vr n :: st) (ua μ n (fun _ => 0))) : GoI l D cA X own cc nL rt B Qa (n) (ρ) (k) (z) (pc) L (vi a :: st) (μ) := by
  intro p e R s m args below meth c Q A n0 σ0 σ H locs ls hC hR hn hσ hW hl hL hst
  obtain ⟨hx, hb, hml, hown, hts, hK, hA, hE, hB, hX⟩ := id hC
  have har : iR a := ok_hd hst
  have ht3 : t < 3 := (List.getElem?_eq_some_iff.mp hC0).1
  have hAO : va_AO C s := by
    rcases (by omega : t = 0 ∨ t = 1 ∨ t = 2) with h | h | h <;> subst h <;> cases hC0
    · exact hE.2.1.1
    · exact hE.2.1.2.1
    · exact hE.2.1.2.2
  have hty : (tyA cA)[t + 2]? = some (cA (t + 2), .object C) := by
    rcases (by omega : t = 0 ∨ t = 1 ∨ t = 2) with h | h | h <;> subst h <;> cases hC0 <;> rfl
  refine va_newq (C := C) (N' := N) hx hb hown (hts _ hw) hAO hK hW.1 hW.2.1 hW.2.2.1 hA ?_ (by rw [oi_nat har]; omega) (by omega) (Nat.le_trans hk.1 hB.2.2.1) (Nat.le_trans hk.2 hB.2.2.2) d ?_
  · intro h
    have := (oi_lt har (show iR 0 from ⟨by decide, by decide⟩)).mp h
    omega
  · intro q c0 H1 hK1 hP1 hD1 hS1
    have e := ca_obj hK hty hK1
    subst e
    refine wi_grow kk hn1 ?_ hC hR hn hσ hW.2.2.2.1 hW.2.2.2.2 hP1 hD1 hS1 hl hL (ok_tl hst)
    rw [hs]
    show (if t + 22 < 20 then _ else if t + 22 < 22 then _ else _) = _
    rw [if_neg (by omega), if_neg (by omega), show t + 22 - 20 = t + 2 by omega]
    rfl
theorem wl_setR {σ : Nat → Nat} {i : Nat} {g : Int → Option Nat} {q : Nat × va_E} (hq : q = (σ i, ent cA σ g (μ i) (shp i))) : (wl cA n σ ρ μ).set i q = wl cA n σ (uR ρ i g) μ := by
  subst hq
  apply List.ext_getElem?
  intro j
  rw [List.getElem?_set]
  by_cases hj : j < n
  · rw [wl_at hj, wl_at hj, wl_len]
    by_cases h : i = j
    · subst h; rw [if_pos rfl, if_pos hj, uR_s]
    · rw [if_neg h, uR_n (fun e => h e.symm)]
  · have e1 : (wl cA n σ ρ μ)[j]? = none := List.getElem?_eq_none (by rw [wl_len]; omega)
    have e2 : (wl cA n σ (uR ρ i g) μ)[j]? = none := List.getElem?_eq_none (by rw [wl_len]; omega)
    rw [e1, e2, wl_len]
    by_cases h : i = j
    · subst h; rw [if_pos rfl, if_neg hj]
    · rw [if_neg h]
theorem fvl_setR {σ : Nat → Nat} {g : Int → Option Nat} {f : Int → Int} {ci N kf j : Nat} (hr : isRf ci kf = true) : ((List.range N).map (fvl σ g f ci)).set kf (.ref (σ j)) = (List.range N).map (fvl σ (uG g (kf : Nat) j) f ci) := by
  apply List.ext_getElem?
  intro q
  rw [List.getElem?_set]
  by_cases hj : q < N
  · rw [fvl_at hj, fvl_at hj, List.length_map, List.length_range]
    by_cases h : kf = q
    · subst h
      rw [if_pos rfl, if_pos hj]
      unfold fvl uG
      rw [hr, if_pos rfl, if_pos rfl]
      rfl
    · rw [if_neg h]
      unfold fvl uG
      rw [if_neg (show ((q : Nat) : Int) ≠ (kf : Nat) by omega)]
  · have e1 : ∀ g : Nat → Value, ((List.range N).map g)[q]? = none := fun g => List.getElem?_eq_none (by simp; omega)
    rw [e1, e1, List.length_map, List.length_range]
    by_cases h : kf = q
    · subst h; rw [if_pos rfl, if_neg hj]
    · rw [if_neg h]
theorem okP_uR {i j : Nat} {q : Int} (h : okP n ρ) (hj : j < n) : okP n (uR ρ i (uG (ρ i) q j)) := by
  intro a b c hc
  unfold uR at hc
  by_cases e : a = i
  · rw [if_pos e] at hc
    unfold uG at hc
    by_cases e2 : b = q
    · rw [if_pos e2] at hc; cases hc; exact hj
    · rw [if_neg e2] at hc; exact h _ _ _ hc
  · rw [if_neg e] at hc; exact h _ _ _ hc
def PQ (own : String) (index ci kf : Nat) (C : String) (T : u_T) (N : Nat) (ty : FieldType) (fin : Bool) : Prop := (vwCl[ci]? = some (C, T, N) ∧ kf < N ∧ (∀ w ∈ u_ws C T N, w ∈ TB) ∧ ci < 20 ∧ (T kf).1 = C ∧ Cond.fieldLink own index C (T kf).2.1 (T kf).2.2.1 ∈ TB) ∧ (∃ ty0 : Nat → FieldType, ∀ k, k < N → parseFieldDescriptor (T k).2.2.1 = some (ty0 k)) ∧ (∀ a, a < N → ∀ b, b < N → a ≠ b → (T a).2.1 ≠ (T b).2.1) ∧ (T kf).2.2.2 = fin ∧ parseFieldDescriptor (T kf).2.2.1 = some ty ∧ C = own ∧ (∀ a, narrow ty (.ref a) = .ref a) ∧ ∀ a, fits ty (.ref a) = true
theorem gi_putQ {index ci kf i j N : Nat} (kz : Int) {C : String} {T : u_T} {ty : FieldType} {fin : Bool} (d : decode cc pc = .ok (.putfield index, 3)) (F : PQ own index ci kf C T N ty fin) (hi : i < n) (hj : j < n) (hs : shp i = (ci, N)) (hr : isRf ci kf = true) (hz : ((kf : Nat) : Int) = kz) (kk : GoI l D cA X own cc nL rt B Qa n (uR ρ i (uG (ρ i) kz j)) k z (pc + 3) L st μ) : GoI l D cA X own cc nL rt B Qa n ρ k z pc L (vr j :: vr i :: st) μ := by
  subst hz
  intro p e R s m args below meth c Q A n0 σ0 σ H locs ls hC hR hn hσ hW hl hL hst
  obtain ⟨hx, hb, hml, hown, hts, hK, hA, hE, hB, hX⟩ := id hC
  obtain ⟨⟨hc, hk, hin, hci, hC1, hlk⟩, ⟨ty0, hty⟩, hnm, hfin, hd, hCo, hn1, hf1⟩ := F
  have he := wl_o (cA := cA) (ρ := ρ) (μ := μ) (σ := σ) hi hs hci
  have hlen : kf < ((List.range N).map (fvl σ (ρ i) (μ i) ci)).length := by simp; exact hk
  have hset : (wl cA n σ ρ μ).set i (σ i, .inr (ci, ((List.range N).map (fvl σ (ρ i) (μ i) ci)).set kf (.ref (σ j)))) = wl cA n σ (uR ρ i (uG (ρ i) (kf : Nat) j)) μ := wl_setR (by rw [fvl_setR hr, hs, ent_o hci])
  have K := fun H1 locs1 hP1 hD1 hS1 => kk p e R s m args below meth c Q A n0 σ0 σ H1 locs1 ls hC hR hn hσ ⟨by rw [← hset]; exact hP1, by rw [← hset]; exact hD1, hS1, hW.2.2.2.1, okP_uR hW.2.2.2.2 hj⟩ hl hL (ok_tl (ok_tl hst))
  cases fin with
  | false => exact va_put (T := T) (N := N) hx hb hts hin ty0 hty hnm hown hK hW.1 hW.2.1 hW.2.2.1 i he hc kf hk (hts _ hlk) (fun x h => by rw [hC1] at h; exact h) hfin hd (hn1 _) (hf1 _) hlen d K
  | true => exact va_putF (T := T) (N := N) hx hb hts hin ty0 hty hnm hown hK hW.1 hW.2.1 hW.2.2.1 i he hc kf hk (hts _ hlk) (fun x h => by rw [hC1] at h; exact h) hfin hR.2 (hC1.trans hCo) hd (hn1 _) (hf1 _) hlen d K
theorem gi_aastore {i N t j ci M : Nat} {a : Int} {C : String} {T : u_T} (d : decode cc pc = .ok (.aastore, 1)) (hC0 : (["WhiteSlope$Law", "WhiteSlope$Sheet", "WhiteSlope$Slot"])[t]? = some C) (hi : i < n) (hs : shp i = (t + 22, N)) (hj : j < n) (hsj : shp j = (ci, M)) (hcl : vwCl[ci]? = some (C, T, M)) (hci : ci < 20) (h0 : 0 ≤ a) (h1 : a < (N : Nat)) (kk : GoI l D cA X own cc nL rt B Qa n (uR ρ i (uG (ρ i) a j)) k z (pc + 1) L st μ) : GoI l D cA X own cc nL rt B Qa n ρ k z pc L (vr j :: vi a :: vr i :: st) μ := by
  intro p e R s m args below meth c Q A n0 σ0 σ H locs ls hC hR hn hσ hW hl hL hst
  obtain ⟨hx, hb, hml, hown, hts, hK, hA, hE, hB, hX⟩ := id hC
  have ha : iR a := ok_hd (ok_tl hst)
  have ht3 : t < 3 := (List.getElem?_eq_some_iff.mp hC0).1
  have hty : (tyA cA)[t + 2]? = some (cA (t + 2), .object C) := by
    rcases (by omega : t = 0 ∨ t = 1 ∨ t = 2) with h | h | h <;> subst h <;> cases hC0 <;> rfl
  have hen : ∀ g : Int → Option Nat, ent cA σ g (μ i) (t + 22, N) = .inl (cA (t + 2), N, .inr (.inr (.inr (.inr (fun j => (g (j : Nat)).map σ))))) := fun g => by
    unfold ent
    rw [if_neg (by omega), if_neg (by omega)]
    rfl
  have he : (wl cA n σ ρ μ)[i]? = some (σ i, .inl (cA (t + 2), N, .inr (.inr (.inr (.inr (fun j => (ρ i (j : Nat)).map σ)))))) := by
    rw [wl_at hi, hs, hen]
  have hv := wl_o (cA := cA) (ρ := ρ) (μ := μ) (σ := σ) hj hsj hci
  have hup : va_up (fun j => (ρ i (j : Nat)).map σ) (Int32.ofInt a).toNatClampNeg (some (σ j)) = fun q : Nat => (uG (ρ i) a j (q : Nat)).map σ := by
    funext q
    unfold va_up uG
    have hq := at_nat h0 ha
    by_cases e : q = (Int32.ofInt a).toNatClampNeg
    · rw [if_pos e, if_pos (by omega)]; rfl
    · rw [if_neg e, if_neg (by omega)]
  refine va_astq (r := (C, T, M)) hx hb hK hW.1 hW.2.1 hW.2.2.1 i (t + 2) j ci he hty hv hcl (oi_in h0 h1 ha) d ?_
  rw [hup]
  have hset : (wl cA n σ ρ μ).set i (σ i, .inl (cA (t + 2), N, .inr (.inr (.inr (.inr (fun q : Nat => (uG (ρ i) a j (q : Nat)).map σ)))))) = wl cA n σ (uR ρ i (uG (ρ i) a j)) μ := wl_setR (by rw [hs, hen])
  intro H1 locs1 hP1 hD1 hS1
  exact kk p e R s m args below meth c Q A n0 σ0 σ H1 locs1 ls hC hR hn hσ ⟨by rw [← hset]; exact hP1, by rw [← hset]; exact hD1, hS1, hW.2.2.2.1, okP_uR hW.2.2.2.2 hj⟩ hl hL (ok_tl (ok_tl (ok_tl hst)))

theorem Ct.ofI {y : MethodName} {args : List AV} (hpl : plainName y.cls = true) (hownn : y.cls = own) (hnm : y.name = "<init>") (hlen : ∀ σ, (lg_sl (args.map (cv σ))).length ≤ nL) (h : okM μ → okP n ρ → (∀ v ∈ args, aok n v) → GoI l D cA none own cc nL rt B Qa n ρ 0 0 0 (la 0 args) [] μ) : Ct l D cA y cc nL rt B n ρ args μ Qa := by
  intro hM hPr hargs σ sz
  refine Met.ofW (cc := cc) (maxL := nL) (ret := rt) hpl rfl ?_
  intro p e s m args' below meth c s₁ Bd hml hv
  obtain ⟨rfl, hsz, hP, hK, hD0, hEv⟩ := hv
  subst hsz
  have hts := atoms_spec (ws := Cond.code y cc nL rt :: TB) Bd.pre
  have hown : s.vm.findClass own = some m.cls := by rw [← hownn]; exact findClass_of_methodNamed Bd.named
  have hlocks := Bd.notSynchronized
  have hr := Bd.returns
  have hx := Bd.exec
  have hb := Bd.bytes
  have hl := lv_entry (args.map (cv σ)) (n := nL) (hlen σ)
  rw [lg_entry_eq]
  generalize (lg_sl (args.map (cv σ)) ++ List.replicate (nL - (lg_sl (args.map (cv σ))).length) Slot.unset).toArray = ls at hl ⊢
  rw [← la_args] at hl
  refine h hM hPr hargs p e (Rm B) s m _ below meth c _ (va_A (wl cA n σ ρ μ) s.heap.size) n σ σ s.heap [] ls ⟨hx, hb, hml, hown, fun w hw => hts w (List.mem_cons_of_mem _ hw), hK, fun q hq => Or.inr hq, hEv, ⟨Nat.le_refl _, Nat.le_refl _, Nat.le_refl _, Nat.le_refl _⟩, fun _ _ h => by cases h⟩ ⟨?_, (name_of_methodNamed Bd.named Bd.method).1.trans hnm⟩ (Nat.le_refl _) (fun _ _ => rfl) ⟨hP, hD0.self, va_S.rf, hM, hPr⟩ hl (fun q hq => hargs _ (la_mem 0 q hq)) (fun _ h => by cases h)
  intro r n' ρ' μ' σ' H' locs' k' z' pc' ls' hq hn hσ hW hty hok hk hz hd
  refine W.widen hk hz ?_
  have hQ : ∀ t : State, t.heap = H' → s.WarmedH t.vm → Qcc D cA n σ ρ μ s.heap.size Qa (args.map (cv σ)).toArray s (.returned (r.map (cv σ'))) t := fun t ht _ => ⟨⟨r, n', ρ', μ', σ', rfl, hq, hn, hσ, by rw [ht]; exact hW.1, hW.2.1, hW.2.2.2.1, hW.2.2.2.2, hok⟩, hW.2.2.1.F ht⟩
  rcases r with _ | x | x | x
  · exact W.vret hx hb (by rw [hr]; exact hty) hQ hW.2.2.1.2.2 hd
  · obtain ⟨ty, hty, hnr⟩ := hty
    exact W.zret (ty := ty) hx hb (by rw [hr]; exact hty) hnr hQ hW.2.2.1.2.2 hd
  · exact W.lret hx hb (by rw [hr]; exact hty) hQ hW.2.2.1.2.2 hd
  · exact absurd hty id
theorem gi_init {index nL' na i : Nat} {y : MethodName} {cc' : ByteArray} {B' : Nat × Nat × Nat} {Qb : QT} {as stk : List AV} (d : decode cc pc = .ok (.invokespecial index, 3)) (hc : Ct l D cA y cc' nL' none B' n ρ (vr i :: as) μ Qb) (hl : ML own index y) (hm : MC y cc' nL' none na) (hsv : Cond.instanceMethod y ∈ TB) (hyn : y.name = "<init>") (hb : Nat.ble (B'.1 + 1) B.1 = true ∧ Nat.ble nL' 21 = true) (hf : k + B'.2.1 ≤ B.2.1 ∧ z + B'.2.2 ≤ B.2.2) (hst : stk = as.reverse ++ vr i :: st) (hcat : Nat.ble (st.map cat).sum 8 = true) (hlen : as.length = na) (kk : KTI l D cA X own cc nL rt B B' Qa Qb n k z pc L st) : GoI l D cA X own cc nL rt B Qa n ρ k z pc L stk μ := by
  refine gi_call (index := index) (ins := .invokespecial index) ?_ hc (by rw [hst, List.reverse_cons, List.append_assoc]; rfl) kk
  intro p e R s m args below meth c A σ0 σ H locs ls hC hE hW hls hok hM
  obtain ⟨hx, hbb, hml, hown, hts, hK, hA, -, hB, hX⟩ := id hC
  obtain ⟨hcode, hini, hd⟩ := hm
  have hb1 := Nat.le_of_ble_eq_true hb.1
  have hb2 := Nat.le_of_ble_eq_true hb.2
  have hroom : (Rm B').frames + 1 ≤ R.frames ∧ 8 + (nL' + 11) + (Rm B').locals ≤ R.locals := ⟨Nat.le_trans hb1 hB.1, by show 8 + (nL' + 11) + 40 * B'.1 ≤ _; have := hB.2.1; omega⟩
  have hff : k + B'.2.1 ≤ R.cells ∧ z + B'.2.2 ≤ R.slots := ⟨Nat.le_trans hf.1 hB.2.2.1, Nat.le_trans hf.2 hB.2.2.2⟩
  have hstk : stk.map (cv σ) = (as.map (cv σ)).reverse ++ Value.ref (σ i) :: st.map (cv σ) := by rw [hst, List.map_append, List.map_reverse]; rfl
  have hw8 : ((st.map (cv σ)).map fun v => v.category).sum ≤ 8 := by rw [cat_sum]; exact Nat.le_of_ble_eq_true hcat
  rcases hl with hlk | hlk
  · exact va_runI (As := as.map (cv σ)) (rest := st.map (cv σ)) ⟨hx, hbb, hml, hown, hts⟩ hM ⟨callB_of na hts (good_sub hcode) rfl rfl rfl (hts _ hini) (hts _ hlk) hd hroom, hyn, hts _ hsv⟩ ⟨pre_blind, pre_at (args := vr i :: as) hK hA hE hW⟩ rfl (by rw [List.length_map]; exact hlen) hls hstk (lv_room hw8) d hff
  · exact va_runIN (As := as.map (cv σ)) (rest := st.map (cv σ)) ⟨hx, hbb, hml, hown, hts⟩ hM ⟨va_cnB na hts (good_sub hcode) rfl rfl rfl (hE.1 _ hlk rfl) (hts _ hini) hd hroom, hyn, hts _ hsv⟩ ⟨pre_blind, pre_at (args := vr i :: as) hK hA hE hW⟩ rfl (by rw [List.length_map]; exact hlen) hls hstk (lv_room hw8) d hff

theorem go_init {index nL' na i : Nat} {y : MethodName} {cc' : ByteArray} {B' : Nat × Nat × Nat} {Qb : QT} {as stk : List AV} (d : decode cc pc = .ok (.invokespecial index, 3)) (hc : Ct l D cA y cc' nL' none B' n ρ (vr i :: as) μ Qb) (hl : ML own index y) (hm : MC y cc' nL' none na) (hsv : Cond.instanceMethod y ∈ TB) (hyn : y.name = "<init>") (hb : Nat.ble (B'.1 + 1) B.1 = true ∧ Nat.ble nL' 21 = true) (hf : k + B'.2.1 ≤ B.2.1 ∧ z + B'.2.2 ≤ B.2.2) (hst : stk = as.reverse ++ vr i :: st) (hcat : Nat.ble (st.map cat).sum 8 = true) (hlen : as.length = na) (kk : KT l D cA X own cc nL rt B B' Qa Qb n k z pc L st) : Go l D cA X own cc nL rt B Qa n ρ k z pc L stk μ := by
  refine go_call (index := index) (ins := .invokespecial index) ?_ hc (by rw [hst, List.reverse_cons, List.append_assoc]; rfl) kk
  intro p e R s m args below meth c A σ0 σ H locs ls hC hE hW hls hok hM
  obtain ⟨hx, hbb, hml, hown, hts, hK, hA, -, hB, hX⟩ := id hC
  obtain ⟨hcode, hini, hd⟩ := hm
  have hb1 := Nat.le_of_ble_eq_true hb.1
  have hb2 := Nat.le_of_ble_eq_true hb.2
  have hroom : (Rm B').frames + 1 ≤ R.frames ∧ 8 + (nL' + 11) + (Rm B').locals ≤ R.locals := ⟨Nat.le_trans hb1 hB.1, by show 8 + (nL' + 11) + 40 * B'.1 ≤ _; have := hB.2.1; omega⟩
  have hff : k + B'.2.1 ≤ R.cells ∧ z + B'.2.2 ≤ R.slots := ⟨Nat.le_trans hf.1 hB.2.2.1, Nat.le_trans hf.2 hB.2.2.2⟩
  have hstk : stk.map (cv σ) = (as.map (cv σ)).reverse ++ Value.ref (σ i) :: st.map (cv σ) := by rw [hst, List.map_append, List.map_reverse]; rfl
  have hw8 : ((st.map (cv σ)).map fun v => v.category).sum ≤ 8 := by rw [cat_sum]; exact Nat.le_of_ble_eq_true hcat
  rcases hl with hlk | hlk
  · exact va_runI (As := as.map (cv σ)) (rest := st.map (cv σ)) ⟨hx, hbb, hml, hown, hts⟩ hM ⟨callB_of na hts (good_sub hcode) rfl rfl rfl (hts _ hini) (hts _ hlk) hd hroom, hyn, hts _ hsv⟩ ⟨pre_blind, pre_at (args := vr i :: as) hK hA hE hW⟩ rfl (by rw [List.length_map]; exact hlen) hls hstk (lv_room hw8) d hff
  · exact va_runIN (As := as.map (cv σ)) (rest := st.map (cv σ)) ⟨hx, hbb, hml, hown, hts⟩ hM ⟨va_cnB na hts (good_sub hcode) rfl rfl rfl (hE.1 _ hlk rfl) (hts _ hini) hd hroom, hyn, hts _ hsv⟩ ⟨pre_blind, pre_at (args := vr i :: as) hK hA hE hW⟩ rfl (by rw [List.length_map]; exact hlen) hls hstk (lv_room hw8) d hff

end Init
