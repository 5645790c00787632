/-! THE CLAIM OUT OF ONE WALK OF THE LAW'S BODY. Your part is whole_start (and what it stands on); all else here is the same for every law, but numbers. -/
def R_law : String := "WhiteSlopeLaw"
def lw_P (b : Addr) (xs : List Int32) (args : Array Value) (s : State) : Prop := args = #[.ref b] ∧ s.IntsAt b xs ∧ xs.length ≤ 3072 ∧ (Jvm.Cond.and given_1 narrow_1).before args s = true
def lw_Q (_ : Array Value) (s : State) (o : Outcome) (t : State) : Prop := o = .returned (some (.int 1)) ∧ Framed s o t [] 600000 7302249
def lw_Z (below : List Frame) (a : Array Value) (s : State) : State → Prop := fun t => ∃ o, t.status = .running ∧ Ended t below o ∧ lw_Q a s o t
/-- the law's own end, with 1 on the stack, nothing written that was there before, its room as the claim has it -/
theorem lw_ret {p : Program} {l : Launch} {e : Env} {s : State} {m : MethodId} {below : List Frame} {meth : Method} {c : Code} {b : Nat} (hx : p.tables.exec = Jvm.exec) (hb : c.code = code) (hr : meth.sig.returnType = ret) (hlocks : meth.locks = false) {pc : Nat} {H : Heap} {ls : Array Slot} (hdg : decode code pc = .ok (.ireturn, 1)) : W p l e room_1 s m #[Value.ref b] below meth c H [] 600000 7302249 (lw_Z below #[Value.ref b] s) (F0 m pc ls [.int 1]) := by
  intro T hT X
  obtain ⟨fs, hret, hrun, hended, hW, hframe⟩ := X.leave (v := some (.int 1)) (hlocks := hlocks) (fun h => by rw [hr] at h; cases h)
  have hmeth' : T.vm.method? m = some meth := X.method'
  refine ⟨T.setFrames fs, ?_, .returned (some (.int 1)), hrun, hended, rfl, ⟨_, rfl⟩, hW, hframe⟩
  jvm_step X.here [X.here.top, hx, hb, hdg, hmeth', hr, ret, narrow_b1]
  (try refine ⟨rfl, ?_⟩); (try refine ⟨rfl, ?_⟩)
  first | (intro acts; rw [hret _ acts rfl rfl rfl]) | rw [hret _ _ rfl rfl rfl]
  exact Steps.refl _
/-- what holds at the law's entry: the machine, the code, the tables' words (any of lw_tbl by 'hts w (by decide +kernel)'), the script of L ints xs at the cell b, what the Statement gives of the start (any of its parts by flat_of_before) -/
def lw_At (p : Program) (s : State) (m : MethodId) (meth : Method) (c : Code) (b L : Nat) (xs : Nat → Int32) : Prop :=
  p.tables.exec = Jvm.exec ∧ c.code = code ∧ meth.sig.returnType = ret ∧ c.maxLocals = 4 ∧ s.vm.findClass R_law = some m.cls ∧ (∀ w ∈ lw_tbl, w.before #[Value.ref b] s = true) ∧ va_X b L xs s s.heap ∧ b < s.heap.size ∧ meth.locks = false ∧ (Jvm.Cond.and given_1 narrow_1).before #[Value.ref b] s = true
set_option maxHeartbeats 4000000 in
set_option maxRecDepth 100000 in
theorem whole_start {p : Program} {e : Env} {s : State} {m : MethodId} {below : List Frame} {meth : Method} {c : Code} (l : Launch) (hflags : l.flags = flags0) {b L : Nat} {xs : Nat → Int32} (hL : L ≤ 3072) (C0 : lw_At p s m meth c b L xs) : W p l e room_1 s m #[Value.ref b] below meth c s.heap [] 0 0 (lw_Z below #[Value.ref b] s) (entryFrame m ([Value.ref b] : List Value).toArray 4) := by
  obtain ⟨hx, hb, hr, hml, hown, hts, hX, hbl, hlocks, hgv⟩ := id C0
  have hs := flat_of_before _ hgv
  have hA0 : ∀ a : Nat, a < s.heap.size → ¬ (fun q : Nat => s.heap.size ≤ q) a := fun a h => Nat.not_le.mpr h
  obtain ⟨c0, i0, k0⟩ := u_known (C := RX1) (T := TX1) (N := 4) (n := 4) (fun w hw => hts w (tb_lw hw)) uw_X1 (hts _ (tb_lw nw_X4_9.2.2.2.2.1))
  obtain ⟨c1, i1, k1⟩ := u_known (C := RX2) (T := TX2) (N := 2) (n := 2) (fun w hw => hts w (tb_lw hw)) uw_X2 (hts _ (tb_lw nw_X9_7.2.2.2.2.1))
  obtain ⟨c2, i2, k2⟩ := u_known (C := RX3) (T := TX3) (N := 14) (n := 14) (fun w hw => hts w (tb_lw hw)) uw_X3 (hts _ (tb_lw nw_X9_16.2.2.2.2.1))
  obtain ⟨c3, i3, k3⟩ := u_known (C := RX4) (T := TX4) (N := 5) (n := 5) (fun w hw => hts w (tb_lw hw)) uw_X4 (hts _ (tb_lw nw_X9_45.2.2.2.2.1))
  obtain ⟨c4, i4, k4⟩ := u_known (C := RX5) (T := TX5) (N := 3) (n := 3) (fun w hw => hts w (tb_lw hw)) uw_X5 (hts _ (tb_lw nw_X6_15.2.2.2.2.1))
  obtain ⟨c5, i5, k5⟩ := u_known (C := RX6) (T := TX6) (N := 6) (n := 6) (fun w hw => hts w (tb_lw hw)) uw_X6 (hts _ (tb_lw nw_X9_61.2.2.2.2.1))
  obtain ⟨c6, i6, k6⟩ := u_known (C := RX7) (T := TX7) (N := 2) (n := 2) (fun w hw => hts w (tb_lw hw)) uw_X7 (hts _ (tb_lw nw_X9_38.2.2.2.2.1))
  obtain ⟨c7, i7, k7⟩ := u_known (C := RX8) (T := TX8) (N := 2) (n := 2) (fun w hw => hts w (tb_lw hw)) uw_X8 (hts _ (tb_lw nw_X9_31.2.2.2.2.1))
  obtain ⟨c8, i8, k8⟩ := u_known (C := RX9) (T := TX9) (N := 12) (n := 12) (fun w hw => hts w (tb_lw hw)) uw_X9 (hts _ (tb_lw nw_L_7.2.2.2.2.1))
  obtain ⟨c9, i9, k9⟩ := u_known (C := RX10) (T := TX10) (N := 38) (n := 38) (fun w hw => hts w (tb_lw hw)) uw_X10 (hts _ (tb_lw nw_L_10.2.2.2.2.1))
  obtain ⟨dC, dI, hKc⟩ : ∃ (dC : Nat → ClassId) (dI : Nat → Nat → Nat), ∀ (k : Nat) (q : vw_C), vwCl[k]? = some q → u_Kn s q.1 q.2.1 q.2.2 (dC k) (dI k) := by
    refine ⟨fun k => [c0, c1, c2, c3, c4, c5, c6, c7, c8, c9].getD k c0, fun k => [i0, i1, i2, i3, i4, i5, i6, i7, i8, i9].getD k i0, ?_⟩
    intro k q hq
    match k, hq with
    | 0, hq => cases hq; exact k0
    | 1, hq => cases hq; exact k1
    | 2, hq => cases hq; exact k2
    | 3, hq => cases hq; exact k3
    | 4, hq => cases hq; exact k4
    | 5, hq => cases hq; exact k5
    | 6, hq => cases hq; exact k6
    | 7, hq => cases hq; exact k7
    | 8, hq => cases hq; exact k8
    | 9, hq => cases hq; exact k9
    | k + 10, hq => simp [vwCl] at hq
  obtain ⟨a0, ka0, ca0, f0, g0, h0⟩ := Cond.arrayClass_spec (hts _ (tb_lw aw_int))
  obtain ⟨a1, ka1, ca1, f1, g1, h1⟩ := Cond.arrayClass_spec (hts _ (tb_lw aw_boolean))
  have o2 : (Cond.arrayOver (.object "WhiteSlope$Law")).before #[Value.ref b] s = true := hts _ (tm1 (List.mem_of_getElem? (i := 33) (by decide +kernel)))
  obtain ⟨ca2, a2, ka2, m2, n2, g2, h2, f2⟩ := Cond.arrayOver_spec o2
  have o3 : (Cond.arrayOver (.object "WhiteSlope$Sheet")).before #[Value.ref b] s = true := hts _ (tm1 (List.mem_of_getElem? (i := 185) (by decide +kernel)))
  obtain ⟨ca3, a3, ka3, m3, n3, g3, h3, f3⟩ := Cond.arrayOver_spec o3
  have o4 : (Cond.arrayOver (.object "WhiteSlope$Slot")).before #[Value.ref b] s = true := hts _ (tm1 (List.mem_of_getElem? (i := 205) (by decide +kernel)))
  obtain ⟨ca4, a4, ka4, m4, n4, g4, h4, f4⟩ := Cond.arrayOver_spec o4
  have hK : va_K (dC, dI) vwCl (tyA (fun k => [a0, a1, a2, a3, a4].getD k a0)) s := by
    refine ⟨hKc, fun k q hk => ?_⟩
    match k, hk with
    | 0, hk => cases hk; exact ⟨fun n z => ⟨fun k h => (by cases h), ka0, g0, ca0, h0⟩, f0⟩
    | 1, hk => cases hk; exact ⟨fun n z => ⟨fun k h => (by cases h), ka1, g1, ca1, h1⟩, f1⟩
    | 2, hk => cases hk; exact ⟨fun n z => ⟨fun k h => (by cases h), ka2, g2, ca2, h2⟩, ka2, ca2, g2, h2, m2, f2⟩
    | 3, hk => cases hk; exact ⟨fun n z => ⟨fun k h => (by cases h), ka3, g3, ca3, h3⟩, ka3, ca3, g3, h3, m3, f3⟩
    | 4, hk => cases hk; exact ⟨fun n z => ⟨fun k h => (by cases h), ka4, g4, ca4, h4⟩, ka4, ca4, g4, h4, m4, f4⟩
    | k + 5, hk => simp [tyA] at hk
  obtain ⟨tO, hO1, hO2⟩ := va_Tof (tm := (.static "WhiteSlope$Kinds" "OVER" "[I")) (ty := .int) (N := 6) (f := fun j => .int (ovr j)) (A := (fun q : Nat => s.heap.size ≤ q)) (by decide) (hs _ (by decide +kernel)) (va_eqt (hs _ (by decide +kernel))) (fun j hj => by
    rcases (by omega : j = 0 ∨ j = 1 ∨ j = 2 ∨ j = 3 ∨ j = 4 ∨ j = 5) with h | h | h | h | h | h <;> subst h <;> exact va_eqt (hs _ (by decide +kernel))) hA0
  obtain ⟨adK, adV, hS1, hS2⟩ := vk_Sof (args := #[Value.ref b]) (s := s) (N := 3) (tm := fun i => (.string "WhiteSlope$Reader" (sIdx.getD i (0, "")).1 : Term)) (len := sLen) (byt := sByt) (A := (fun q : Nat => s.heap.size ≤ q)) (fun i hi => by rcases (by omega : i = 0 ∨ i = 1 ∨ i = 2) with h | h | h <;> subst h <;> decide) (fun i hi => by rcases (by omega : i = 0 ∨ i = 1 ∨ i = 2) with h | h | h <;> subst h <;> exact hs _ (by decide +kernel)) (fun i hi => by rcases (by omega : i = 0 ∨ i = 1 ∨ i = 2) with h | h | h <;> subst h <;> exact hs _ (by decide +kernel)) (fun i hi => by rcases (by omega : i = 0 ∨ i = 1 ∨ i = 2) with h | h | h <;> subst h <;> exact hs _ (by decide +kernel)) (fun i hi => by rcases (by omega : i = 0 ∨ i = 1 ∨ i = 2) with h | h | h <;> subst h <;> exact hs _ (by decide +kernel)) (fun i hi j hj => by
    have hj4 : j < 4 := by rcases (by omega : i = 0 ∨ i = 1 ∨ i = 2) with h | h | h <;> subst h <;> exact hj
    rcases (by omega : i = 0 ∨ i = 1 ∨ i = 2) with h | h | h <;> subst h <;> rcases (by omega : j = 0 ∨ j = 1 ∨ j = 2 ∨ j = 3) with h | h | h | h <;> subst h <;> exact hs _ (by decide +kernel)) (fun i j hi hj hne => by
    rcases (by omega : i = 0 ∨ i = 1 ∨ i = 2) with h | h | h <;> subst h <;> rcases (by omega : j = 0 ∨ j = 1 ∨ j = 2) with h | h | h <;> subst h <;> first | exact absurd rfl hne | exact Or.inl (hs _ (by decide +kernel)) | exact Or.inr (hs _ (by decide +kernel))) hA0
  have hEv : Ev (fun j : Nat => if j = 1000 then tO else if j = 1020 then b else if j < 1011 then adK (j - 1001) else adV (j - 1011)) (fun q : Nat => s.heap.size ≤ q) s s.heap := by
    refine ⟨fun w hw hn => va_Nw.of (by cases w <;> first | rfl | cases hn) (hts w hw), ⟨o2, o3, o4⟩, ⟨va_Zof (hts _ (tm2 (List.mem_of_getElem? (i := 122) (by decide +kernel)))) (hts _ (tm1 (List.mem_of_getElem? (i := 11) (by decide +kernel)))) hO1 hA0, hO2⟩, ⟨va_Zof (hts _ (tm3 (List.mem_of_getElem? (i := 183) (by decide +kernel)))) (hts _ (tm1 (List.mem_of_getElem? (i := 14) (by decide +kernel)))) (va_eqt (hs _ (by decide +kernel))) hA0, va_Zqof (hts _ (tm3 (List.mem_of_getElem? (i := 199) (by decide +kernel)))) (hts _ (tm1 (List.mem_of_getElem? (i := 16) (by decide +kernel)))) (hs _ (by decide +kernel)) hA0⟩, fun i hi => ?_, ?_⟩
    · have e2 := hS2 i hi
      rcases (by omega : i = 0 ∨ i = 1 ∨ i = 2) with h | h | h <;> subst h
      · exact vk_R.of (hts _ (tm3 (List.mem_of_getElem? (i := 169) (by decide +kernel)))) e2
      · exact vk_R.of (hts _ (tm3 (List.mem_of_getElem? (i := 222) (by decide +kernel)))) e2
      · exact vk_R.of (hts _ (tm3 (List.mem_of_getElem? (i := 223) (by decide +kernel)))) e2
    · obtain ⟨g1, g2⟩ := hS1
      have e1 : ∀ i, i < 3 → (fun j : Nat => if j = 1000 then tO else if j = 1020 then b else if j < 1011 then adK (j - 1001) else adV (j - 1011)) (1001 + i) = adK i := fun i hi => by
        rcases (by omega : i = 0 ∨ i = 1 ∨ i = 2) with h | h | h <;> subst h <;> rfl
      have e3 : ∀ i, i < 3 → (fun j : Nat => if j = 1000 then tO else if j = 1020 then b else if j < 1011 then adK (j - 1001) else adV (j - 1011)) (1011 + i) = adV i := fun i hi => by
        rcases (by omega : i = 0 ∨ i = 1 ∨ i = 2) with h | h | h <;> subst h <;> rfl
      refine ⟨fun i hi => ?_, fun i j hi hj e => ?_⟩
      · have g := g1 i hi
        dsimp only
        have q1 := e1 i hi
        have q3 := e3 i hi
        dsimp only at q1 q3
        rw [q1, q3]
        exact g
      · exact g2 i j hi hj ((e1 i hi).symm.trans (e.trans (e1 j hj)))
  have hl := lv_entry ([Value.ref b]) (n := 4) (Nat.le_of_ble_eq_true rfl)
  rw [lg_entry_eq]
  generalize (lg_sl ([Value.ref b]) ++ List.replicate (4 - (lg_sl ([Value.ref b])).length) Slot.unset).toArray = ls at hl ⊢
  have hl : lv_has ls 4 [(0, .ref b)] := hl
  have G := lw_first (l := l) (D := (dC, dI)) (cA := fun k => [a0, a1, a2, a3, a4].getD k a0) (N := L) (xs := fun j => (xs j).toInt) (BF := 100) (BK := 600000) (BZ := 7302249) (μ := fun _ _ => 0) hL (fun j => ⟨Int32.le_toInt _, Int.le_of_lt_add_one (Int32.toInt_lt _)⟩) (by decide) (by decide) (by decide)
  refine G p e room_1 s m #[Value.ref b] below meth c (lw_Z below #[Value.ref b] s) (fun q : Nat => s.heap.size ≤ q) 0 (fun j : Nat => if j = 1000 then tO else if j = 1020 then b else if j < 1011 then adK (j - 1001) else adV (j - 1011)) (fun j : Nat => if j = 1000 then tO else if j = 1020 then b else if j < 1011 then adK (j - 1001) else adV (j - 1011)) s.heap [] ls ⟨hx, hb, hml, hown, fun w hw => hts w (tb_lw hw), hK, fun q h => h, hEv, ⟨by decide, by decide, by decide, by decide⟩, fun L' xs' h => ?_⟩ ?_ (Nat.le_refl _) (fun _ _ => rfl) ⟨fun k q h => by simp [wl] at h, ⟨fun i j p q h => by simp [wl] at h, fun k q h => by simp [wl] at h⟩, va_S.rf, fun _ _ => (show iR 0 from ⟨by decide, by decide⟩), fun _ _ _ h => by cases h⟩ hl (fun q hq => by rw [List.mem_singleton.mp hq]; exact Or.inr (by decide)) (fun v hv => by cases hv)
  · cases h
    have e : (fun j => Int32.ofInt ((xs j).toInt)) = xs := funext fun j => Int32.ofInt_toInt _
    refine ⟨?_, hbl, Nat.not_le.mpr hbl, fun j => ⟨Int32.le_toInt _, Int.le_of_lt_add_one (Int32.toInt_lt _)⟩⟩
    rw [e]; exact hX
  · intro r n ρ μ σ H locs k z pc ls hq hn hσ hW hty hok hk hz hd
    subst hq
    refine W.widen hk hz ?_
    exact va_forget hW.2.2.1.2.2 (lw_ret hx hb hr hlocks hd)
set_option maxHeartbeats 4000000 in
theorem lw_walk (l : Launch) (hflags : l.flags = flags0) (b : Addr) (xs : List Int32) : MetFree l x (headSpec (Jvm.Cond.code x code maxLocals ret :: tables_1) room_1) (lw_P b xs) (fun _ _ _ _ _ => True) lw_Q := by
  refine MetFree.of_bodyS (code := code) (maxLocals := maxLocals) (ret := ret) (by decide) ?_ ?_
  · intro args s m h hn
    obtain ⟨meth, c, h1, h2, h3, h4, h5, h6, -, -⟩ := Cond.code_spec hn (atoms_spec (ws := Jvm.Cond.code x code maxLocals ret :: tables_1) h _ List.mem_cons_self)
    exact ⟨meth, c, h1, h2, h3, h4, h5, h6⟩
  · intro p e s m args below meth c s₁ B hml0 hP _
    obtain ⟨rfl, hx, hbd, hgv⟩ := hP
    obtain ⟨scr, harrAt, hlist, hof, hsmall⟩ := hx
    obtain ⟨hcb, hkn, -, -⟩ := State.arrayAt?_spec harrAt
    have hown : s.vm.findClass R_law = some m.cls := findClass_of_methodNamed B.named
    have hts0 : ∀ c ∈ (Jvm.Cond.code x code maxLocals ret :: tables_1), c.before #[Value.ref b] s = true := atoms_spec (ws := Jvm.Cond.code x code maxLocals ret :: tables_1) B.pre
    have hts : ∀ w ∈ lw_tbl, w.before #[Value.ref b] s = true := k2_hts_sels lw_privs (fun w hw => hts0 w (List.mem_cons_of_mem _ hw)) lw_privs_ok
    have hml : c.maxLocals = 4 := B.maxLocals_eq (hts0 _ List.mem_cons_self)
    have X₀ : Stand p l e room_1 s m #[Value.ref b] below meth c s₁ [] 0 0 := Stand.of_body B
    have hh0 : s₁.heap = s.heap := by rw [B.state]; rfl
    have hsz : scr.slots.size = xs.length := by rw [← Array.length_toList, hlist, List.length_map]
    have hval : ∀ j : Nat, j < xs.length → scr.slots[j]? = some (.int (xs.getD j 0)) := fun j hj => by
      rw [← Array.getElem?_toList, hlist]
      simp [hj]
    have hbl : b < s.heap.size := (Array.getElem?_eq_some_iff.mp hcb).1
    have hX : va_X b xs.length (fun j => xs.getD j 0) s s.heap := ⟨scr, hcb, hof, hkn, hsz, hval⟩
    have K : W p l e room_1 s m #[Value.ref b] below meth c s₁.heap [] 0 0 (lw_Z below #[Value.ref b] s) (entryFrame m ([Value.ref b] : List Value).toArray 4) := by
      rw [hh0]
      exact whole_start l hflags hbd ⟨B.exec, B.bytes, B.returns, hml, hown, hts, hX, hbl, B.notSynchronized, hgv⟩
    obtain ⟨t, a1, o, b1, b2, b3⟩ := K s₁ rfl X₀
    exact ⟨t, o, a1, b1, b2, b3⟩
theorem lw_pre_spec {args : Array Value} {s : State} (h : (Jvm.Cond.and given_1 narrow_1).before args s = true) (hr : rest_1_c.before args s = true) : ∃ (b : Addr) (xs : List Int32), lw_P b xs args s := by
  have hs := flat_of_before _ h
  have hq := flat_of_before _ hr
  have hc : (Cond.count 1).before args s = true := hs _ (by decide +kernel)
  have harr : (Cond.arrayOf (.arg 0) .int).before args s = true := hs _ (by decide +kernel)
  have hle : (Cond.le (.length (.arg 0)) (.int 3072)).before args s = true := hs _ (by decide +kernel)
  have hlen : (Cond.isInt (.length (.arg 0))).before args s = true := hq _ (by decide +kernel)
  have hall : (Cond.all (.arg 0) (.isInt (.elem (.arg 0) (.index 0)))).before args s = true := hq _ (by decide +kernel)
  obtain ⟨b, xs, hb, hx⟩ := State.ints_of_pre rfl harr hlen hall
  have hsm : xs.length < 2 ^ 31 := hx.choose_spec.2.2.2
  have hev : (Term.length (.arg 0)).eval args s none [] s = some (.int xs.length.toInt32) := hx.length_eval hb
  have hv := Cond.le_ints hev (show (Term.int 3072).eval args s none [] s = some (.int 3072) from rfl)
  have hd : xs.length.toInt32 ≤ 3072 := by
    simpa [Cond.before, Cond.holds, hv] using hle
  have hN : xs.length ≤ 3072 := (Int32.ofNat_le_ofNat hsm (by decide)).mp (show Int32.ofNat xs.length ≤ Int32.ofNat 3072 from hd)
  exact ⟨b, xs, Cond.one_arg hc (show args[0]? = some (.ref b) from hb), hx, hN, h⟩
theorem lw_comes (l : Launch) (hflags : l.flags = flags0) : Comes l x (Jvm.Cond.code x code maxLocals ret :: tables_1) room_1 (fun tb e args s => Calls_1 tb e args s ∧ rest_1 tb e args s ∧ Pre_1 tb e args s)
    (fun _ _ args s o t => lw_Q args s o t) := by
  intro p e ha hc hk s m args below hf hfit hheap happ hpre
  obtain ⟨b, xs, hP⟩ := lw_pre_spec hpre.2.2 hpre.2.1
  obtain ⟨k, o, h1, h2, h3, hQ⟩ := lw_walk l hflags b xs p e ha hc hk s m args below hf ((Spec.applies_iff_loose hf).mp happ).1 hP trivial
  exact ⟨k, o, h1, h2, h3, hQ⟩
theorem lw_frame {s t : State} {o : Outcome} {args : Array Value} (h : Framed s o t [] 600000 7302249) :
    Framed s o t (fieldLocs frame_1_writes args s ++ arrayLocs frame_1_arrays args s ++ staticLocs frame_1_statics s) 600000 7302249 := h
theorem lw_limb (L : Cond) (hL : ∀ (args : Array Value) (s t : State), L.after args s (.returned (some (.int 1))) t = true) :
    ArmFor flags0 classFile x code maxLocals ret World_1 tables_1 room_1 Calls_1 rest_1 Pre_1
      (fun tb e a s o t => postC L tb e a s o t ∧ Framed s o t (fieldLocs frame_1_writes a s ++ arrayLocs frame_1_arrays a s ++ staticLocs frame_1_statics s) 600000 7302249) := by
  intro l hflags _ _ p e ha hc hk s m args below hf hfit hheap happ hpre
  obtain ⟨k, o, h1, h2, h3, rfl, hF⟩ := lw_comes l hflags p e ha hc hk s m args below hf hfit hheap happ hpre
  exact ⟨k, _, h1, h2, h3, hL args s _, lw_frame hF⟩
theorem i_vc : Claimed_1_1 ∧ Claimed_1_2 := ⟨lw_limb limb_1_1 (fun args s t => by simp [limb_1_1, Cond.after, Cond.holds, Cond.value]), lw_limb limb_1_2 (fun args s t => Cond.after_iff.mpr (by
  first | (rw [show limb_1_2 = Cond.eq .result (.int 1) from rfl, Cond.eq_ints (x := 1) (y := 1) rfl rfl]; simp; done) | (simp [limb_1_2, Cond.value, Term.eval]; done)))⟩
