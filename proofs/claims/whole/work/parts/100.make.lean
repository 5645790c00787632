/-! MAKING: new objects, new rows, references put, constructors called -/
section Making
variable {l : Launch} {D : va_G} {cA : Nat → ClassId} {X : XT} {own : String} {cc : ByteArray} {nL : Nat} {rt : Option FieldType} {B : Nat × Nat × Nat} {Qa : QT} {n : Nat} {ρ : RefM} {k z pc : Nat} {L : List (Nat × AV)} {st : List AV} {μ : Mem}
def uR (ρ : RefM) (i : Nat) (g : Int → Option Nat) : RefM := fun a => if a = i then g else ρ a
def uG (g : Int → Option Nat) (k : Int) (j : Nat) : Int → Option Nat := fun q => if q = k then some j else g q
theorem uR_s {i : Nat} {g : Int → Option Nat} : uR ρ i g i = g := if_pos rfl
theorem uR_n {i a : Nat} {g : Int → Option Nat} (h : a ≠ i) : uR ρ i g a = ρ a := if_neg h
theorem ent_same {σ σ' : Nat → Nat} {g : Int → Option Nat} {f : Int → Int} {sh : Nat × Nat} (h : ∀ q j, g q = some j → σ' j = σ j) : ent cA σ' g f sh = ent cA σ g f sh := by
  have hm : ∀ q : Int, (g q).map σ' = (g q).map σ := fun q => by
    cases hq : g q with
    | none => rfl
    | some j => show some (σ' j) = some (σ j); rw [h q j hq]
  have hF : ∀ ci, fvl σ' g f ci = fvl σ g f ci := fun ci => funext fun q => by unfold fvl; rw [hm]
  unfold ent
  simp only [hm, hF]
theorem wl_app {σ σ' : Nat → Nat} {ρ' : RefM} {μ' : Mem} {q : Nat} {E : va_E} (hσ : ∀ j, j < n → σ' j = σ j) (hP : okP n ρ) (hρ : ∀ i, i < n → ρ' i = ρ i) (hμ : ∀ i, i < n → μ' i = μ i) (hq : σ' n = q) (hE : ent cA σ' (ρ' n) (μ' n) (shp n) = E) : wl cA (n + 1) σ' ρ' μ' = wl cA n σ ρ μ ++ [(q, E)] := by
  unfold wl
  rw [List.range_succ, List.map_append]
  congr 1
  · apply List.map_congr_left
    intro i hi
    have hi2 := List.mem_range.mp hi
    rw [hσ i hi2, hρ i hi2, hμ i hi2, ent_same (fun q j h => hσ j (hP i q j h))]
  · show [(σ' n, ent cA σ' (ρ' n) (μ' n) (shp n))] = _
    rw [hq, hE]
def nx (σ : Nat → Nat) (n q : Nat) : Nat → Nat := fun j => if j = n then q else σ j
theorem nx_n {σ : Nat → Nat} {q j : Nat} (h : j ≠ n) : nx σ n q j = σ j := if_neg h
/-- the world has grown by a cell, whose number is n: on with what follows -/
theorem w_grow {p : Program} {e : Env} {R : Room} {s : State} {m : MethodId} {args : Array Value} {below : List Frame} {meth : Method} {c : Code} {Q : State → Prop} {A : Nat → Prop} {n0 : Nat} {σ0 σ : Nat → Nat} {H1 : Heap} {locs : List Loc} {ls : Array Slot} {q : Nat} {E : va_E} {k' z' pc' : Nat}
    (kk : Go l D cA X own cc nL rt B Qa (n + 1) (uR ρ n (fun _ => none)) k' z' pc' L (vr n :: st) (ua μ n (fun _ => 0))) (hn1 : n < 1000) (hEn : ent cA (nx σ n q) (fun _ => none) (fun _ => 0) (shp n) = E)
    (hC : Cx D cA X own cc nL B p R s m args meth c A σ0) (hR : Rt l D cA cc rt B Qa p e R s m args below meth c Q A n0 σ0) (hn : n0 ≤ n) (hσ : ∀ j, j < n0 ∨ 1000 ≤ j → σ j = σ0 j) (hM : okM μ) (hP : okP n ρ)
    (h1 : va_P D vwCl (wl cA n σ ρ μ ++ [(q, E)]) H1) (h2 : va_D A (wl cA n σ ρ μ ++ [(q, E)])) (h3 : va_S A s.heap H1 locs)
    (hl : lv_has ls nL (L.map (fun q => (q.1, cv σ q.2)))) (hL : ∀ q ∈ L, aok n q.2) (hst : ∀ v ∈ st, aok n v) : W p l e R s m args below meth c H1 locs k' z' Q (F0 m pc' ls (.ref q :: st.map (cv σ))) := by
  have hs : ∀ j, j < n ∨ 1000 ≤ j → nx σ n q j = σ j := fun j hj => nx_n (by omega)
  have hw : wl cA (n + 1) (nx σ n q) (uR ρ n (fun _ => none)) (ua μ n (fun _ => 0)) = wl cA n σ ρ μ ++ [(q, E)] := wl_app (fun j hj => hs j (Or.inl hj)) hP (fun i hi => uR_n (by omega)) (fun i hi => ua_ne (by omega)) (if_pos rfl) (by rw [uR_s, ua_same]; exact hEn)
  have hm : okM (ua μ n (fun _ => 0)) := fun i j => by
    unfold ua
    by_cases e : i = n
    · rw [if_pos e]; exact ⟨by decide, by decide⟩
    · rw [if_neg e]; exact hM i j
  have hp : okP (n + 1) (uR ρ n (fun _ => none)) := fun i a j h => by
    unfold uR at h
    by_cases e : i = n
    · rw [if_pos e] at h; cases h
    · rw [if_neg e] at h; exact Nat.lt_succ_of_lt (hP i a j h)
  have K := kk p e R s m args below meth c Q A n0 σ0 (nx σ n q) H1 locs ls hC hR (by omega) (fun j hj => (hs j (by omega)).trans (hσ j hj)) ⟨by rw [hw]; exact h1, by rw [hw]; exact h2, h3, hm, hp⟩ (by rw [← mapL_same hs hL]; exact hl) (fun q hq => aok_mono (Nat.le_succ n) (hL q hq)) (fun v hv => by
    rcases List.mem_cons.mp hv with h | h
    · rw [h]; exact Or.inl (Nat.lt_succ_self n)
    · exact aok_mono (Nat.le_succ n) (hst v h))
  rw [map_same hs hst]
  have e0 : (vr n :: st).map (cv (nx σ n q)) = .ref q :: st.map (cv (nx σ n q)) := by
    show Value.ref (nx σ n q n) :: _ = _
    rw [show nx σ n q n = q from if_pos rfl]
  rw [e0] at K
  exact K
def NW (own : String) (index ci : Nat) (C : String) (T : u_T) (N : Nat) : Prop := vwCl[ci]? = some (C, T, N) ∧ ci < 20 ∧ (∀ w ∈ u_ws C T N, w ∈ TB) ∧ Cond.classLink own index C ∈ TB ∧ Cond.instantiable C N ∈ TB ∧ Cond.initialized C ∈ TB ∧ ∃ ty : Nat → FieldType, (∀ k, k < N → parseFieldDescriptor (T k).2.2.1 = some (ty k)) ∧ ∀ j, j < N → defaultValue (ty j) = if isRf ci j = true then .null else .int 0
theorem go_new {index ci N : Nat} {C : String} {T : u_T} (d : decode cc pc = .ok (.new index, 3)) (F : NW own index ci C T N) (hs : shp n = (ci, N)) (hn1 : n < 1000) (hk : k + 1 ≤ B.2.1 ∧ z + N ≤ B.2.2) (kk : Go l D cA X own cc nL rt B Qa (n + 1) (uR ρ n (fun _ => none)) (k + 1) (z + N) (pc + 3) L (vr n :: st) (ua μ n (fun _ => 0))) : Go l D cA X own cc nL rt B Qa (n) (ρ) (k) (z) (pc) L (st) (μ) := by
  intro p e R s m args below meth c Q A n0 σ0 σ H locs ls hC hR hn hσ hW hl hL hst
  obtain ⟨hx, hb, hml, hown, hts, hK, hA, hE, hB, hX⟩ := id hC
  obtain ⟨hc, hci, hin, hcl, hinst, hini, ty, hty, hdf⟩ := F
  refine va_new (T := T) (N := N) hx hb hts hin ty hty hown (hts _ hcl) (hts _ hinst) (hts _ hini) hK hW.1 hW.2.1 hW.2.2.1 hA hc (fs := (List.range N).map (fvl σ (fun _ => none) (fun _ => 0) ci)) ?_ (Nat.le_trans hk.1 hB.2.2.1) (Nat.le_trans hk.2 hB.2.2.2) d ?_
  · intro j hj
    have e : vp_V ((List.range N).map (fvl σ (fun _ => none) (fun _ => 0) ci)) j = fvl σ (fun _ => none) (fun _ => 0) ci j := by
      unfold vp_V
      rw [List.getD_eq_getElem?_getD, fvl_at hj]
      rfl
    rw [hdf j hj, e]
    unfold fvl
    split <;> rfl
  · intro q H1 hP1 hD1 hS1
    refine w_grow kk hn1 ?_ hC hR hn hσ hW.2.2.2.1 hW.2.2.2.2 hP1 hD1 hS1 hl hL hst
    rw [hs, ent_o hci]
    have e : fvl (nx σ n q) (fun _ => none) (fun _ => 0) ci = fvl σ (fun _ => none) (fun _ => 0) ci := rfl
    rw [e]
theorem ca_int {s : State} (hK : va_K D vwCl (tyA cA) s) {c0 : ClassId} {tys : List (ClassId × FieldType)} (h : va_K D vwCl (tys ++ [(c0, .int)]) s) : c0 = cA 0 := by
  have h1 := (hK.2 0 (cA 0, .int) rfl).2
  have h2 := (h.2 tys.length (c0, .int) (by simp)).2
  exact Option.some.inj (h2.symm.trans h1)
theorem ca_bool {s : State} (hK : va_K D vwCl (tyA cA) s) {c0 : ClassId} {tys : List (ClassId × FieldType)} (h : va_K D vwCl (tys ++ [(c0, .boolean)]) s) : c0 = cA 1 := by
  have h1 := (hK.2 1 (cA 1, .boolean) rfl).2
  have h2 := (h.2 tys.length (c0, .boolean) (by simp)).2
  exact Option.some.inj (h2.symm.trans h1)
theorem ca_obj {s : State} (hK : va_K D vwCl (tyA cA) s) {c0 : ClassId} {C : String} {t : Nat} (ht : (tyA cA)[t + 2]? = some (cA (t + 2), .object C)) {tys : List (ClassId × FieldType)} (h : va_K D vwCl (tys ++ [(c0, .object C)]) s) : c0 = cA (t + 2) := by
  obtain ⟨_, _, _, _, _, h1⟩ := (hK.2 (t + 2) _ ht).2
  obtain ⟨_, _, _, _, _, h2⟩ := (h.2 tys.length (c0, .object C) (by simp)).2
  exact Option.some.inj (h2.symm.trans h1)
theorem go_newI {a : Int} {N : Nat} (d : decode cc pc = .ok (.newarray .int, 2)) (hw : Cond.arrayClass .int ∈ TB) (ha : a = (N : Nat)) (hN : N ≤ 4000) (hs : shp n = (20, N)) (hn1 : n < 1000) (hk : k + 1 ≤ B.2.1 ∧ z + N ≤ B.2.2) (kk : Go l D cA X own cc nL rt B Qa (n + 1) (uR ρ n (fun _ => none)) (k + 1) (z + N) (pc + 2) L (vr n :: st) (ua μ n (fun _ => 0))) : Go l D cA X own cc nL rt B Qa (n) (ρ) (k) (z) (pc) L (vi a :: st) (μ) := by
  intro p e R s m args below meth c Q A n0 σ0 σ H locs ls hC hR hn hσ hW hl hL hst
  obtain ⟨hx, hb, hml, hown, hts, hK, hA, hE, hB, hX⟩ := id hC
  have har : iR a := ok_hd hst
  refine va_newa (atype := .int) (ty := .int) (a0 := (N, .inl (fun _ => 0))) hx hb (hts _ hw) rfl hK hW.1 hW.2.1 hW.2.2.1 hA (fun _ => rfl) ?_ (by rw [oi_nat har]; omega) (by show N * 4 ≤ _; omega) (Nat.le_trans hk.1 hB.2.2.1) (Nat.le_trans hk.2 hB.2.2.2) d ?_
  · intro h
    have := (oi_lt har (show iR 0 from ⟨by decide, by decide⟩)).mp h
    omega
  · intro q c0 H1 hK1 hP1 hD1 hS1
    have e := ca_int hK hK1
    subst e
    exact w_grow kk hn1 (by rw [hs, ent_i]; rfl) hC hR hn hσ hW.2.2.2.1 hW.2.2.2.2 hP1 hD1 hS1 hl hL (ok_tl hst)
theorem go_newZ {a : Int} {N : Nat} (d : decode cc pc = .ok (.newarray .boolean, 2)) (hw : Cond.arrayClass .boolean ∈ TB) (ha : a = (N : Nat)) (hN : N ≤ 4000) (hs : shp n = (21, N)) (hn1 : n < 1000) (hk : k + 1 ≤ B.2.1 ∧ z + N ≤ B.2.2) (kk : Go l D cA X own cc nL rt B Qa (n + 1) (uR ρ n (fun _ => none)) (k + 1) (z + N) (pc + 2) L (vr n :: st) (ua μ n (fun _ => 0))) : Go l D cA X own cc nL rt B Qa (n) (ρ) (k) (z) (pc) L (vi a :: st) (μ) := by
  intro p e R s m args below meth c Q A n0 σ0 σ H locs ls hC hR hn hσ hW hl hL hst
  obtain ⟨hx, hb, hml, hown, hts, hK, hA, hE, hB, hX⟩ := id hC
  have har : iR a := ok_hd hst
  refine va_newa (atype := .boolean) (ty := .boolean) (a0 := (N, .inl (fun _ => 0))) hx hb (hts _ hw) rfl hK hW.1 hW.2.1 hW.2.2.1 hA (fun _ => rfl) ?_ (by rw [oi_nat har]; omega) (by show N * 1 ≤ _; omega) (Nat.le_trans hk.1 hB.2.2.1) (Nat.le_trans hk.2 hB.2.2.2) d ?_
  · intro h
    have := (oi_lt har (show iR 0 from ⟨by decide, by decide⟩)).mp h
    omega
  · intro q c0 H1 hK1 hP1 hD1 hS1
    have e := ca_bool hK hK1
    subst e
    exact w_grow kk hn1 (by rw [hs, ent_z]; rfl) hC hR hn hσ hW.2.2.2.1 hW.2.2.2.2 hP1 hD1 hS1 hl hL (ok_tl hst)
theorem go_newQ {index : Nat} {a : Int} {N t : Nat} {C : String} (d : decode cc pc = .ok (.anewarray index, 3)) (hw : Cond.classLink own index C ∈ TB) (hC0 : (["WhiteSlope$Law", "WhiteSlope$Sheet", "WhiteSlope$Slot"])[t]? = some C) (ha : a = (N : Nat)) (hN : N ≤ 4000) (hs : shp n = (t + 22, N)) (hn1 : n < 1000) (hk : k + 1 ≤ B.2.1 ∧ z + N ≤ B.2.2) (kk : Go l D cA X own cc nL rt B Qa (n + 1) (uR ρ n (fun _ => none)) (k + 1) (z + N) (pc + 3) L (vr n :: st) (ua μ n (fun _ => 0))) : Go l D cA X own cc nL rt B Qa (n) (ρ) (k) (z) (pc) L (vi a :: st) (μ) := by
  intro p e R s m args below meth c Q A n0 σ0 σ H locs ls hC hR hn hσ hW hl hL hst
  obtain ⟨hx, hb, hml, hown, hts, hK, hA, hE, hB, hX⟩ := id hC
  have har : iR a := ok_hd hst
  have ht3 : t < 3 := (List.getElem?_eq_some_iff.mp hC0).1
  have hAO : va_AO C s := by
    rcases (by omega : t = 0 ∨ t = 1 ∨ t = 2) with h | h | h <;> subst h <;> cases hC0
    · exact hE.2.1.1
    · exact hE.2.1.2.1
    · exact hE.2.1.2.2
  have hty : (tyA cA)[t + 2]? = some (cA (t + 2), .object C) := by
    rcases (by omega : t = 0 ∨ t = 1 ∨ t = 2) with h | h | h <;> subst h <;> cases hC0 <;> rfl
  refine va_newq (C := C) (N' := N) hx hb hown (hts _ hw) hAO hK hW.1 hW.2.1 hW.2.2.1 hA ?_ (by rw [oi_nat har]; omega) (by omega) (Nat.le_trans hk.1 hB.2.2.1) (Nat.le_trans hk.2 hB.2.2.2) d ?_
  · intro h
    have := (oi_lt har (show iR 0 from ⟨by decide, by decide⟩)).mp h
    omega
  · intro q c0 H1 hK1 hP1 hD1 hS1
    have e := ca_obj hK hty hK1
    subst e
    refine w_grow kk hn1 ?_ hC hR hn hσ hW.2.2.2.1 hW.2.2.2.2 hP1 hD1 hS1 hl hL (ok_tl hst)
    rw [hs]
    show (if t + 22 < 20 then _ else if t + 22 < 22 then _ else _) = _
    rw [if_neg (by omega), if_neg (by omega), show t + 22 - 20 = t + 2 by omega]
    rfl

end Making
