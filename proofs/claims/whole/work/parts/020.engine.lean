/-! THE ENGINE: a judgement 'Go' over the machine, with the world as numbers in a memory; a row an instruction -/
abbrev AV : Type := Int ⊕ (Int ⊕ Option Nat)
abbrev vi (x : Int) : AV := Sum.inl x
abbrev vl (x : Int) : AV := Sum.inr (Sum.inl x)
abbrev vr (j : Nat) : AV := Sum.inr (Sum.inr (some j))
abbrev vn : AV := Sum.inr (Sum.inr none)
def cv (σ : Nat → Nat) : AV → Value
  | .inl x => .int (Int32.ofInt x)
  | .inr (.inl x) => .long (Int64.ofInt x)
  | .inr (.inr none) => .null
  | .inr (.inr (some j)) => .ref (σ j)
def ct2 : AV → Bool
  | .inr (.inl _) => true
  | _ => false
def cat (v : AV) : Nat := if ct2 v = true then 2 else 1
theorem cv_cat (σ : Nat → Nat) (v : AV) : (cv σ v).category = cat v := by
  rcases v with x | x | _ | j <;> rfl
abbrev iR (x : Int) : Prop := -2147483648 ≤ x ∧ x ≤ 2147483647
abbrev lR (x : Int) : Prop := -9223372036854775808 ≤ x ∧ x ≤ 9223372036854775807
def aok (n : Nat) : AV → Prop
  | .inl x => iR x
  | .inr (.inl x) => lR x
  | .inr (.inr none) => True
  | .inr (.inr (some j)) => j < n ∨ 1000 ≤ j
abbrev Mem : Type := Nat → Int → Int
abbrev RefM : Type := Nat → Int → Option Nat
def uf (f : Int → Int) (k : Int) (x : Int) : Int → Int := fun j => if j = k then x else f j
def ua (μ : Mem) (i : Nat) (f : Int → Int) : Mem := fun a => if a = i then f else μ a
abbrev ud (μ : Mem) (i : Nat) (k x : Int) : Mem := ua μ i (uf (μ i) k x)
theorem ua_same (μ : Mem) (i : Nat) (f : Int → Int) : ua μ i f i = f := if_pos rfl
theorem ua_ne {μ : Mem} {i a : Nat} {f : Int → Int} (h : a ≠ i) : ua μ i f a = μ a := if_neg h
theorem uf_same (f : Int → Int) (k x : Int) : uf f k x k = x := if_pos rfl
theorem uf_ne {f : Int → Int} {k j x : Int} (h : j ≠ k) : uf f k x j = f j := if_neg h
def wr (x : Int) : Int := (Int32.ofInt x).toInt
def wrl (x : Int) : Int := (Int64.ofInt x).toInt
theorem wr_R (x : Int) : iR (wr x) := ⟨Int32.le_toInt _, Int.le_of_lt_add_one (Int32.toInt_lt _)⟩
theorem wr_id {x : Int} (h : iR x) : wr x = x := Int32.toInt_ofInt_of_le h.1 (Int.lt_add_one_of_le h.2)
theorem of_wr (x : Int) : Int32.ofInt (wr x) = Int32.ofInt x := Int32.ofInt_toInt _
theorem wrl_R (x : Int) : lR (wrl x) := ⟨Int64.le_toInt _, Int.le_of_lt_add_one (Int64.toInt_lt _)⟩
theorem wrl_id {x : Int} (h : lR x) : wrl x = x := Int64.toInt_ofInt_of_le h.1 (Int.lt_add_one_of_le h.2)
theorem of_wrl (x : Int) : Int64.ofInt (wrl x) = Int64.ofInt x := Int64.ofInt_toInt _
theorem oi_lt {a b : Int} (ha : iR a) (hb : iR b) : Int32.ofInt a < Int32.ofInt b ↔ a < b := by
  rw [Int32.lt_iff_toInt_lt]; show wr a < wr b ↔ _; rw [wr_id ha, wr_id hb]
theorem oi_le {a b : Int} (ha : iR a) (hb : iR b) : Int32.ofInt a ≤ Int32.ofInt b ↔ a ≤ b := by
  rw [Int32.le_iff_toInt_le]; show wr a ≤ wr b ↔ _; rw [wr_id ha, wr_id hb]
theorem oi_eq {a b : Int} (ha : iR a) (hb : iR b) : Int32.ofInt a = Int32.ofInt b ↔ a = b := by
  rw [← Int32.toInt_inj]; show wr a = wr b ↔ _; rw [wr_id ha, wr_id hb]
theorem ol_lt {a b : Int} (ha : lR a) (hb : lR b) : Int64.ofInt a < Int64.ofInt b ↔ a < b := by
  rw [Int64.lt_iff_toInt_lt]; show wrl a < wrl b ↔ _; rw [wrl_id ha, wrl_id hb]
theorem ol_eq {a b : Int} (ha : lR a) (hb : lR b) : Int64.ofInt a = Int64.ofInt b ↔ a = b := by
  rw [← Int64.toInt_inj]; show wrl a = wrl b ↔ _; rw [wrl_id ha, wrl_id hb]
theorem oi_nat {a : Int} (ha : iR a) : (Int32.ofInt a).toNatClampNeg = a.toNat := Int32.toNatClampNeg_ofInt_of_le ha.1 (Int.lt_add_one_of_le ha.2)
theorem oi_in {a : Int} {N : Nat} (h0 : 0 ≤ a) (h1 : a < N) (ha : iR a) : vp_in (Int32.ofInt a) N := by
  rw [vp_in_iff]; show 0 ≤ wr a ∧ wr a < _; rw [wr_id ha]; exact ⟨h0, h1⟩
/-! the shapes: what stands under each number -/
def shL : List (Nat × Nat) := [(8, 12), (1, 2), (22, 14), (20, 96)] ++ ((List.range 14).flatMap (fun _ => [(0, 4), (20, 96)])) ++ ((List.range 3).flatMap (fun _ => [(2, 14), (20, 30), (20, 30), (20, 30), (20, 24), (20, 30), (20, 30)])) ++ [(7, 2), (20, 30), (20, 30), (6, 2), (20, 96), (3, 5), (0, 4), (20, 96), (23, 4)] ++ ((List.range 4).flatMap (fun _ => [(4, 3), (20, 24)])) ++ [(24, 5)] ++ ((List.range 5).flatMap (fun _ => [(5, 6), (4, 3), (20, 24)])) ++ [(20, 60), (9, 38), (20, 3122), (20, 3122), (20, 3122), (20, 4), (20, 4), (20, 96), (20, 5), (20, 5), (20, 5), (20, 5), (20, 120), (20, 30), (20, 122), (20, 30), (20, 30), (20, 30), (20, 30), (20, 30), (21, 30), (20, 96), (20, 128), (20, 100), (20, 24), (20, 60), (20, 60)]
def shp (i : Nat) : Nat × Nat := shL.getD i (99, 0)
def isRf (ci k : Nat) : Bool := match ci with
  | 0 => k == 3
  | 1 => true
  | 2 => decide (k < 7)
  | 3 => decide (k < 2)
  | 4 => k == 2
  | 5 => k == 5
  | 6 => k == 0
  | 7 => true
  | 8 => decide (k < 10)
  | _ => !(k == 3 || (decide (21 ≤ k) && decide (k ≤ 31)) || k == 36)
def fvl (σ : Nat → Nat) (ρ : Int → Option Nat) (f : Int → Int) (ci k : Nat) : Value := if isRf ci k = true then va_rf ((ρ (k : Nat)).map σ) else .int (Int32.ofInt (f (k : Nat)))
def ent (cA : Nat → ClassId) (σ : Nat → Nat) (ρ : Int → Option Nat) (f : Int → Int) (sh : Nat × Nat) : va_E :=
  if sh.1 < 20 then .inr (sh.1, (List.range sh.2).map (fvl σ ρ f sh.1))
  else if sh.1 < 22 then .inl (cA (sh.1 - 20), sh.2, .inl (fun j => Int32.ofInt (f (j : Nat))))
  else .inl (cA (sh.1 - 20), sh.2, .inr (.inr (.inr (.inr (fun j => (ρ (j : Nat)).map σ)))))
def wl (cA : Nat → ClassId) (n : Nat) (σ : Nat → Nat) (ρ : RefM) (μ : Mem) : va_W := (List.range n).map (fun i => (σ i, ent cA σ (ρ i) (μ i) (shp i)))
theorem wl_at {cA : Nat → ClassId} {n : Nat} {σ : Nat → Nat} {ρ : RefM} {μ : Mem} {i : Nat} (h : i < n) : (wl cA n σ ρ μ)[i]? = some (σ i, ent cA σ (ρ i) (μ i) (shp i)) := by
  simp [wl, h]
theorem wl_len {cA : Nat → ClassId} {n : Nat} {σ : Nat → Nat} {ρ : RefM} {μ : Mem} : (wl cA n σ ρ μ).length = n := by simp [wl]
theorem wl_set {cA : Nat → ClassId} {n : Nat} {σ : Nat → Nat} {ρ : RefM} {μ : Mem} {i : Nat} {f : Int → Int} {q : Nat × va_E} (hq : q = (σ i, ent cA σ (ρ i) f (shp i))) : (wl cA n σ ρ μ).set i q = wl cA n σ ρ (ua μ i f) := by
  subst hq
  apply List.ext_getElem?
  intro j
  rw [List.getElem?_set]
  by_cases hj : j < n
  · rw [wl_at hj, wl_at hj, wl_len]
    by_cases h : i = j
    · subst h; rw [if_pos rfl, if_pos hj, ua_same]
    · rw [if_neg h, ua_ne (fun e => h e.symm)]
  · have e1 : (wl cA n σ ρ μ)[j]? = none := List.getElem?_eq_none (by rw [wl_len]; omega)
    have e2 : (wl cA n σ ρ (ua μ i f))[j]? = none := List.getElem?_eq_none (by rw [wl_len]; omega)
    rw [e1, e2, wl_len]
    by_cases h : i = j
    · subst h; rw [if_pos rfl, if_neg hj]
    · rw [if_neg h]
def TB : List Cond := lw_tbl.filter goodWord
theorem tb_good : ∀ w ∈ TB, (w.onTables && w.keeps) = true ∨ ∃ ty, w = .arrayClass ty := fun w h => good_of_word (List.mem_filter.mp h).2
theorem tb_lw {w : Cond} (h : w ∈ TB) : w ∈ lw_tbl := (List.mem_filter.mp h).1
theorem tb_of {w : Cond} (h : w ∈ lw_tbl) (hg : goodWord w = true) : w ∈ TB := List.mem_filter.mpr ⟨h, hg⟩
theorem tmS {w : Cond} (h : w ∈ k2_sels lw_privs) : w ∈ lw_tbl := List.mem_append_left _ h
theorem tm1 {w : Cond} (h : w ∈ tables_1_1) : w ∈ lw_tbl := List.mem_append_right _ (List.mem_append_left _ h)
theorem tm2 {w : Cond} (h : w ∈ tables_1_2) : w ∈ lw_tbl := List.mem_append_right _ (List.mem_append_right _ (List.mem_append_left _ h))
theorem tm3 {w : Cond} (h : w ∈ tables_1_3) : w ∈ lw_tbl := List.mem_append_right _ (List.mem_append_right _ (List.mem_append_right _ (List.mem_append_left _ h)))
theorem tm4 {w : Cond} (h : w ∈ tables_1_4) : w ∈ lw_tbl := List.mem_append_right _ (List.mem_append_right _ (List.mem_append_right _ (List.mem_append_right _ (List.mem_append_left _ h))))
theorem tm5 {w : Cond} (h : w ∈ tables_1_5) : w ∈ lw_tbl := List.mem_append_right _ (List.mem_append_right _ (List.mem_append_right _ (List.mem_append_right _ (List.mem_append_right _ (List.mem_append_left _ h)))))
theorem tm6 {w : Cond} (h : w ∈ tables_1_6) : w ∈ lw_tbl := List.mem_append_right _ (List.mem_append_right _ (List.mem_append_right _ (List.mem_append_right _ (List.mem_append_right _ (List.mem_append_right _ h)))))
def isNw : Cond → Bool
  | .fieldLinkNest .. => true
  | .methodLinkNest .. => true
  | _ => false
def tyA (cA : Nat → ClassId) : List (ClassId × FieldType) := [(cA 0, .int), (cA 1, .boolean), (cA 2, .object "WhiteSlope$Law"), (cA 3, .object "WhiteSlope$Sheet"), (cA 4, .object "WhiteSlope$Slot")]
/-! what stands outside the world and nobody writes: links among nest mates, OVER, the three words, two statics of the library -/
def ovr (j : Nat) : Int32 := [-1000000005, 0, 0, 1, 2, 0].getD j 0
def sLen : List Nat := [4, 4, 4]
def sByt : List (List Int32) := [[114, 105, 115, 107], [104, 111, 108, 100], [115, 116, 101, 112]]
def sIdx : List (Nat × String) := [(63, "risk"), (72, "hold"), (74, "step")]
def Ev (σ : Nat → Nat) (A : Nat → Prop) (U : State) (H : Heap) : Prop :=
  (∀ w ∈ lw_tbl, isNw w = true → va_Nw w U) ∧
  (va_AO "WhiteSlope$Law" U ∧ va_AO "WhiteSlope$Sheet" U ∧ va_AO "WhiteSlope$Slot" U) ∧
  (va_Z "WhiteSlope$Kinds" "OVER" "[I" (.ref (σ 1000)) A U H ∧ va_T .int (σ 1000) 6 (fun j => .int (ovr j)) A U H) ∧
  (va_Z "java/lang/String" "COMPACT_STRINGS" "Z" (.int 1) A U H ∧ va_Zq "jdk/internal/util/Preconditions" "SIOOBE_FORMATTER" "Ljava/util/function/BiFunction;" A U H) ∧
  (∀ i : Nat, i < 3 → vk_R "WhiteSlope$Reader" (sIdx.getD i (0, "")).1 (sIdx.getD i (0, "")).2 (σ (1001 + i)) U) ∧
  vk_S 3 sLen sByt (fun i => σ (1001 + i)) (fun i => σ (1011 + i)) A U H
theorem nw_warm {w : Cond} {s U : State} (h : isNw w = true) (hW : s.WarmedH U.vm) (hw : va_Nw w s) : va_Nw w U := by
  cases w <;> first | exact va_Nw.warmF hW hw | exact va_Nw.warmM hW hw | cases h
theorem nw_same {w : Cond} {s U : State} (h : isNw w = true) (hv : s.vm = U.vm) (hw : va_Nw w s) : va_Nw w U := by
  cases w <;> first | exact va_Nw.same rfl hv hw | cases h
theorem Ev.warm {σ : Nat → Nat} {A B : Nat → Prop} {s U : State} {H H1 : Heap} (h : Ev σ A s H) (hW : s.WarmedH U.vm) (hq : ∀ a : Nat, a < H.size → ¬ A a → H1[a]? = H[a]?) (hAB : ∀ q, B q → A q) : Ev σ B U H1 := by
  obtain ⟨h1, ⟨a1, a2, a3⟩, ⟨h2, h3⟩, ⟨h4, h5⟩, h6, h7⟩ := h
  refine ⟨fun w hw hn => nw_warm hn hW (h1 w hw hn), ⟨a1.moved hW.alike, a2.moved hW.alike, a3.moved hW.alike⟩, ⟨((h2.moved hW.alike).kept hq).narrow hAB, ((h3.moved hW.alike).kept hq).narrow hAB⟩, ⟨((h4.moved hW.alike).kept hq).narrow hAB, ?_⟩, fun i hi => (h6 i hi).warm hW, ((h7.moved hW.alike).kept hq).narrow hAB⟩
  rcases h5 with h5 | ⟨t, h5⟩
  · exact Or.inl (((h5.moved hW.alike).kept hq).narrow hAB)
  · exact Or.inr ⟨t, ((h5.moved hW.alike).kept hq).narrow hAB⟩
theorem Ev.same {σ : Nat → Nat} {A : Nat → Prop} {s U : State} {H : Heap} (h : Ev σ A s H) (hv : s.vm = U.vm) : Ev σ A U H := by
  have hal : s.vm.Alike U.vm := by rw [hv]; exact Vm.Alike.refl U.vm
  obtain ⟨h1, ⟨a1, a2, a3⟩, ⟨h2, h3⟩, ⟨h4, h5⟩, h6, h7⟩ := h
  refine ⟨fun w hw hn => nw_same hn hv (h1 w hw hn), ⟨a1.moved hal, a2.moved hal, a3.moved hal⟩, ⟨h2.moved hal, h3.moved hal⟩, ⟨h4.moved hal, h5.moved hal⟩, fun i hi => (h6 i hi).same hv.symm, h7.moved hal⟩
theorem Ev.ext {σ σ' : Nat → Nat} {A : Nat → Prop} {s : State} {H : Heap} (h : Ev σ A s H) (he : ∀ j, 1000 ≤ j → σ' j = σ j) : Ev σ' A s H := by
  obtain ⟨h1, h0, h2, h4, h6, h7⟩ := h
  refine ⟨h1, h0, ?_, h4, fun i hi => ?_, ?_⟩
  · rw [he 1000 (Nat.le_refl _)]; exact h2
  · rw [he (1001 + i) (by omega)]; exact h6 i hi
  · have e1 : (fun i => σ' (1001 + i)) = fun i => σ (1001 + i) := funext fun i => he _ (by omega)
    have e2 : (fun i => σ' (1011 + i)) = fun i => σ (1011 + i) := funext fun i => he _ (by omega)
    rw [e1, e2]; exact h7
/-! the judgement -/
abbrev XT : Type := Option (Nat × (Nat → Int))
abbrev QT : Type := Option AV → Nat → RefM → Mem → Prop
def okM (μ : Mem) : Prop := ∀ i j, iR (μ i j)
def okP (n : Nat) (ρ : RefM) : Prop := ∀ i k j, ρ i k = some j → j < n
def Rm (B : Nat × Nat × Nat) : Room := { frames := B.1, cells := B.2.1, slots := B.2.2, locals := 40 * B.1 }
def Cx (D : va_G) (cA : Nat → ClassId) (X : XT) (own : String) (cc : ByteArray) (nL : Nat) (B : Nat × Nat × Nat) (p : Program) (R : Room) (s : State) (m : MethodId) (args : Array Value) (meth : Method) (c : Code) (A : Nat → Prop) (σ0 : Nat → Nat) : Prop :=
  p.tables.exec = Jvm.exec ∧ c.code = cc ∧ c.maxLocals = nL ∧ s.vm.findClass own = some m.cls ∧ (∀ w ∈ TB, w.before args s = true) ∧
  va_K D vwCl (tyA cA) s ∧ (∀ q, s.heap.size ≤ q → A q) ∧ Ev σ0 A s s.heap ∧ (B.1 ≤ R.frames ∧ 40 * B.1 ≤ R.locals ∧ B.2.1 ≤ R.cells ∧ B.2.2 ≤ R.slots) ∧
  (∀ L xs, X = some (L, xs) → va_X (σ0 1020) L (fun j => Int32.ofInt (xs j)) s s.heap ∧ σ0 1020 < s.heap.size ∧ ¬ A (σ0 1020) ∧ ∀ j, iR (xs j))
def Wd (D : va_G) (cA : Nat → ClassId) (A : Nat → Prop) (H0 H : Heap) (locs : List Loc) (σ : Nat → Nat) (n : Nat) (ρ : RefM) (μ : Mem) : Prop :=
  va_P D vwCl (wl cA n σ ρ μ) H ∧ va_D A (wl cA n σ ρ μ) ∧ va_S A H0 H locs ∧ okM μ ∧ okP n ρ
def retI : Option AV → Instr
  | none => .return_
  | some (.inl _) => .ireturn
  | some (.inr (.inl _)) => .lreturn
  | some (.inr (.inr _)) => .areturn
def tyOK (rt : Option FieldType) (r : Option AV) : Prop := match r with
  | none => rt = none
  | some (.inl x) => ∃ ty, rt = some ty ∧ narrow ty (.int (Int32.ofInt x)) = .int (Int32.ofInt x)
  | some (.inr (.inl _)) => rt = some .long
  | some (.inr (.inr _)) => False
def Rt (l : Launch) (D : va_G) (cA : Nat → ClassId) (cc : ByteArray) (rt : Option FieldType) (B : Nat × Nat × Nat) (Qa : QT) (p : Program) (e : Env) (R : Room) (s : State) (m : MethodId) (args : Array Value) (below : List Frame) (meth : Method) (c : Code) (Q : State → Prop) (A : Nat → Prop) (n0 : Nat) (σ0 : Nat → Nat) : Prop :=
  ∀ (r : Option AV) (n : Nat) (ρ : RefM) (μ : Mem) (σ : Nat → Nat) (H : Heap) (locs : List Loc) (k z pc : Nat) (ls : Array Slot), Qa r n ρ μ → n0 ≤ n → (∀ j, j < n0 ∨ 1000 ≤ j → σ j = σ0 j) → Wd D cA A s.heap H locs σ n ρ μ → tyOK rt r → (∀ v, r = some v → aok n v) → k ≤ B.2.1 → z ≤ B.2.2 → decode cc pc = .ok (retI r, 1) →
    W p l e R s m args below meth c H locs k z Q (F0 m pc ls (r.toList.map (cv σ)))
def Go (l : Launch) (D : va_G) (cA : Nat → ClassId) (X : XT) (own : String) (cc : ByteArray) (nL : Nat) (rt : Option FieldType) (B : Nat × Nat × Nat) (Qa : QT) (n : Nat) (ρ : RefM) (k z : Nat) (pc : Nat) (L : List (Nat × AV)) (st : List AV) (μ : Mem) : Prop :=
  ∀ (p : Program) (e : Env) (R : Room) (s : State) (m : MethodId) (args : Array Value) (below : List Frame) (meth : Method) (c : Code) (Q : State → Prop) (A : Nat → Prop) (n0 : Nat) (σ0 σ : Nat → Nat) (H : Heap) (locs : List Loc) (ls : Array Slot),
    Cx D cA X own cc nL B p R s m args meth c A σ0 → Rt l D cA cc rt B Qa p e R s m args below meth c Q A n0 σ0 → n0 ≤ n → (∀ j, j < n0 ∨ 1000 ≤ j → σ j = σ0 j) → Wd D cA A s.heap H locs σ n ρ μ →
    lv_has ls nL (L.map (fun q => (q.1, cv σ q.2))) → (∀ q ∈ L, aok n q.2) → (∀ v ∈ st, aok n v) → W p l e R s m args below meth c H locs k z Q (F0 m pc ls (st.map (cv σ)))
/-! places in the frame -/
def lk : List (Nat × AV) → Nat → Option AV
  | [], _ => none
  | q :: t, k => match Nat.beq q.1 k with
    | true => some q.2
    | false => lk t k
theorem lk_mem {L : List (Nat × AV)} {k : Nat} {v : AV} (h : lk L k = some v) : (k, v) ∈ L := by
  induction L with
  | nil => cases h
  | cons q t ih =>
    unfold lk at h
    cases hb : Nat.beq q.1 k with
    | true =>
      rw [hb] at h
      have e1 : q.1 = k := Nat.eq_of_beq_eq_true hb
      have e2 : q.2 = v := Option.some.inj h
      rw [← e1, ← e2]; exact List.mem_cons_self
    | false => rw [hb] at h; exact List.mem_cons_of_mem _ (ih h)
def keep1 (k : Nat) (q : Nat × AV) : Bool := !(q.1 == k) && !(q.1 + 1 == k && ct2 q.2)
def keep2 (k : Nat) (q : Nat × AV) : Bool := !(q.1 == k) && (!(q.1 == k + 1) && !(q.1 + 1 == k && ct2 q.2))
def ins (k : Nat) (v : AV) : List (Nat × AV) → List (Nat × AV)
  | [] => [(k, v)]
  | q :: t => match Nat.blt k q.1 with
    | true => (k, v) :: q :: t
    | false => q :: ins k v t
theorem ins_mem {k : Nat} {v : AV} {L : List (Nat × AV)} {q : Nat × AV} (h : q ∈ ins k v L) : q = (k, v) ∨ q ∈ L := by
  induction L with
  | nil => exact Or.inl (List.mem_singleton.mp h)
  | cons a t ih =>
    unfold ins at h
    cases hb : Nat.blt k a.1 with
    | true => rw [hb] at h; exact List.mem_cons.mp h
    | false =>
      rw [hb] at h
      rcases List.mem_cons.mp h with e | e
      · exact Or.inr (List.mem_cons.mpr (Or.inl e))
      · rcases ih e with e | e
        · exact Or.inl e
        · exact Or.inr (List.mem_cons_of_mem _ e)
def sto (k : Nat) (v : AV) (L : List (Nat × AV)) : List (Nat × AV) := ins k v (L.filter (keep1 k))
def stl (k : Nat) (v : AV) (L : List (Nat × AV)) : List (Nat × AV) := ins k v (L.filter (keep2 k))
theorem cat_beq (σ : Nat → Nat) (v : AV) : ((cv σ v).category == 2) = ct2 v := by
  rcases v with x | x | _ | j <;> rfl
theorem sto_has {σ : Nat → Nat} {ls : Array Slot} {nL k : Nat} {v : AV} {L : List (Nat × AV)} (h : lv_has ls nL ((k, cv σ v) :: (L.map (fun q => (q.1, cv σ q.2))).filter (fun q => !(q.1 == k) && !(q.1 + 1 == k && q.2.category == 2)))) : lv_has ls nL ((sto k v L).map (fun q => (q.1, cv σ q.2))) := by
  refine ⟨h.1, h.2.1, fun q hq => h.2.2 q ?_⟩
  obtain ⟨w, hw, rfl⟩ := List.mem_map.mp hq
  rcases ins_mem hw with rfl | hw
  · exact List.mem_cons_self
  · obtain ⟨h1, h2⟩ := List.mem_filter.mp hw
    refine List.mem_cons_of_mem _ (List.mem_filter.mpr ⟨List.mem_map.mpr ⟨w, h1, rfl⟩, ?_⟩)
    simp only [cat_beq]; exact h2
theorem stl_has {σ : Nat → Nat} {ls : Array Slot} {nL k : Nat} {v : AV} {L : List (Nat × AV)} (h : lv_has ls nL ((k, cv σ v) :: (L.map (fun q => (q.1, cv σ q.2))).filter (fun q => !(q.1 == k) && (!(q.1 == k + 1) && !(q.1 + 1 == k && q.2.category == 2))))) : lv_has ls nL ((stl k v L).map (fun q => (q.1, cv σ q.2))) := by
  refine ⟨h.1, h.2.1, fun q hq => h.2.2 q ?_⟩
  obtain ⟨w, hw, rfl⟩ := List.mem_map.mp hq
  rcases ins_mem hw with rfl | hw
  · exact List.mem_cons_self
  · obtain ⟨h1, h2⟩ := List.mem_filter.mp hw
    refine List.mem_cons_of_mem _ (List.mem_filter.mpr ⟨List.mem_map.mpr ⟨w, h1, rfl⟩, ?_⟩)
    simp only [cat_beq]; exact h2
theorem sto_ok {n k : Nat} {v : AV} {L : List (Nat × AV)} (hv : aok n v) (h : ∀ q ∈ L, aok n q.2) : ∀ q ∈ sto k v L, aok n q.2 := by
  intro q hq
  rcases ins_mem hq with rfl | hq
  · exact hv
  · exact h q (List.mem_filter.mp hq).1
theorem stl_ok {n k : Nat} {v : AV} {L : List (Nat × AV)} (hv : aok n v) (h : ∀ q ∈ L, aok n q.2) : ∀ q ∈ stl k v L, aok n q.2 := by
  intro q hq
  rcases ins_mem hq with rfl | hq
  · exact hv
  · exact h q (List.mem_filter.mp hq).1
theorem lk_val {σ : Nat → Nat} {ls : Array Slot} {nL k : Nat} {v : AV} {L : List (Nat × AV)} (hl : lv_has ls nL (L.map (fun q => (q.1, cv σ q.2)))) (h : lk L k = some v) : ls[k]? = some (.val (cv σ v)) := hl.2.2 (k, cv σ v) (List.mem_map.mpr ⟨(k, v), lk_mem h, rfl⟩)
theorem lk_ok {n k : Nat} {v : AV} {L : List (Nat × AV)} (hL : ∀ q ∈ L, aok n q.2) (h : lk L k = some v) : aok n v := hL (k, v) (lk_mem h)
theorem ok_cons {n : Nat} {v : AV} {st : List AV} (hv : aok n v) (h : ∀ w ∈ st, aok n w) : ∀ w ∈ v :: st, aok n w := fun w hw => by
  rcases List.mem_cons.mp hw with rfl | hw
  · exact hv
  · exact h w hw
theorem ok_hd {n : Nat} {v : AV} {st : List AV} (h : ∀ w ∈ v :: st, aok n w) : aok n v := h v List.mem_cons_self
theorem ok_tl {n : Nat} {v : AV} {st : List AV} (h : ∀ w ∈ v :: st, aok n w) : ∀ w ∈ st, aok n w := fun w hw => h w (List.mem_cons_of_mem _ hw)
