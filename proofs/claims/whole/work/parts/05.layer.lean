/-! THE LAYER OF WALKS: ints as mathematical numbers (zI z is the int of z), cells with such contents, one judgement kV over (world, locals, pc, stack), one row an instruction, one row a call. -/
def zI (z : Int) : Int32 := Int32.ofInt z
def zR (z : Int) : Prop := -2147483648 ≤ z ∧ z ≤ 2147483647
theorem zI_toInt {z : Int} (h : zR z) : (zI z).toInt = z := Int32.toInt_ofInt_of_le (by have := h.1; omega) (by have := h.2; omega)
theorem zI_self (x : Int32) : zI x.toInt = x := Int32.ofInt_toInt x
theorem zR_self (x : Int32) : zR x.toInt := by
  have h1 := Int32.le_toInt x
  have h2 := Int32.toInt_lt x
  exact ⟨by omega, by omega⟩
theorem zI_add (a b : Int) : zI a + zI b = zI (a + b) := (Int32.ofInt_add a b).symm
theorem zI_sub (a b : Int) : zI a - zI b = zI (a - b) := (Int32.ofInt_sub a b).symm
theorem zI_mul (a b : Int) : zI a * zI b = zI (a * b) := (Int32.ofInt_mul a b).symm
theorem zI_lt {a b : Int} (ha : zR a) (hb : zR b) : zI a < zI b ↔ a < b := by rw [Int32.lt_iff_toInt_lt, zI_toInt ha, zI_toInt hb]
theorem zI_le {a b : Int} (ha : zR a) (hb : zR b) : zI a ≤ zI b ↔ a ≤ b := by rw [Int32.le_iff_toInt_le, zI_toInt ha, zI_toInt hb]
theorem zI_inj {a b : Int} (ha : zR a) (hb : zR b) : zI a = zI b ↔ a = b := by rw [← Int32.toInt_inj, zI_toInt ha, zI_toInt hb]
theorem zI_nat (n : Nat) : zI (n : Int) = nI n := Int32.ofInt_eq_ofNat
theorem zI_0 : zI 0 = 0 := by decide +kernel
theorem zI_1 : zI 1 = 1 := by decide +kernel
theorem zI_m1 : zI (-1) = -1 := by decide +kernel
theorem zR_0 : zR 0 := ⟨by omega, by omega⟩
theorem zI_clamp {z : Int} {k : Nat} (hz : z = k) (hk : k < 2147483648) : (zI z).toNatClampNeg = k := by
  subst hz
  rw [zI_nat]
  exact nI_clamp (by omega)
theorem zI_in {z : Int} {k n : Nat} (hz : z = k) (hk : k < n) (hn : n < 2147483648) : vp_in (zI z) n := by
  subst hz
  rw [zI_nat]
  exact vp_in_nI hk (by omega)
theorem zI_div {a b : Int} (ha : zR a) (hb : zR b) : zI a / zI b = zI (a.tdiv b) := by
  have h1 := ha.1
  have h2 := ha.2
  have h3 := hb.1
  have h4 := hb.2
  exact (Int32.ofInt_tdiv (by rw [Int32.toInt_minValue]; omega) (by rw [Int32.toInt_maxValue]; omega) (by rw [Int32.toInt_minValue]; omega) (by rw [Int32.toInt_maxValue]; omega)).symm
def zShl (a b : Int) : Int := (zI a <<< (zI b &&& 31)).toInt
def zShr (a b : Int) : Int := (zI a >>> (zI b &&& 31)).toInt
def zAnd (a b : Int) : Int := (zI a &&& zI b).toInt
def zOr (a b : Int) : Int := (zI a ||| zI b).toInt
theorem zShl_R (a b : Int) : zR (zShl a b) := zR_self _
theorem zShr_R (a b : Int) : zR (zShr a b) := zR_self _
theorem zAnd_R (a b : Int) : zR (zAnd a b) := zR_self _
theorem zOr_R (a b : Int) : zR (zOr a b) := zR_self _
/-- a row of numbers with one changed -/
def zU (f : Nat → Int) (k : Nat) (x : Int) : Nat → Int := fun j => if j = k then x else f j
theorem zU_s (f : Nat → Int) (k : Nat) (x : Int) : zU f k x k = x := if_pos rfl
theorem zU_n (f : Nat → Int) {k j : Nat} (x : Int) (h : j ≠ k) : zU f k x j = f j := if_neg h
theorem zU_zI (f : Nat → Int) (k : Nat) (x : Int) : upd (fun j => zI (f j)) k (zI x) = fun j => zI (zU f k x j) := by
  funext j
  unfold upd zU
  by_cases h : j = k <;> simp [h]
/-- the machine's constants of one run: where classes lie, the classes of arrays (0: int, 1: boolean, 2: Told, 3: rows of ints), the launch -/
abbrev KM : Type := va_G × (Nat → ClassId) × Launch
abbrev tyM (M : KM) : List (ClassId × FieldType) := [(M.2.1 0, .int), (M.2.1 1, .boolean), (M.2.1 2, .object RX9), (M.2.1 3, .array .int)]
def cO (k h : Nat) (fs : List Value) : Nat × va_E := (h, .inr (k, fs))
def cI (M : KM) (a n : Nat) (f : Nat → Int) : Nat × va_E := (a, .inl (M.2.1 0, n, .inl (fun j => zI (f j))))
def cZ (M : KM) (a n : Nat) (f : Nat → Int) : Nat × va_E := (a, .inl (M.2.1 1, n, .inl (fun j => zI (f j))))
def cT (M : KM) (a n : Nat) (f : Nat → Option Nat) : Nat × va_E := (a, .inl (M.2.1 2, n, .inr (.inr (.inr (.inr f)))))
def cG (M : KM) (a n : Nat) (f : Nat → Option Nat) : Nat × va_E := (a, .inl (M.2.1 3, n, .inr (.inr (.inr (.inr f)))))
/-- one method's run: everything that stays the same on the way -/
abbrev KE : Type := Program × Env × Room × State × MethodId × Array Value × List Frame × Method × Code × (Nat → Prop) × (State → Prop)
/-- links among nest mates, and the classes of arrays of references -/
def kX (U : State) : Prop :=
  va_Nw (.methodLinkNest RX10 9 yX9_init RX10) U ∧ va_Nw (.methodLinkNest RX9 9 yX0_init RX10) U ∧ va_Nw (.methodLinkNest RX9 18 yX4_init RX10) U ∧ va_Nw (.methodLinkNest RX9 25 yX5_init RX10) U ∧ va_Nw (.methodLinkNest RX9 32 yX6_init RX10) U ∧ va_Nw (.methodLinkNest RX9 46 yX8_init RX10) U ∧ va_Nw (.methodLinkNest RX10 22 yX3_init RX10) U ∧ va_Nw (.methodLinkNest RX10 29 yX7_init RX10) U ∧ va_Nw (.methodLinkNest RX10 36 yX1_init RX10) U ∧ va_AO RX9 U ∧ va_AOA .int U
theorem va_AOA.moved {t : FieldType} {u U : State} (hvm : u.vm.Alike U.vm) (h : va_AOA t u) : va_AOA t U := by
  obtain ⟨comp, c, k, h1, h2, h3, h4, h5⟩ := arrayOverA_spec h
  obtain ⟨k', hk', he⟩ := hvm.2.2 _ _ h3
  have e1 := va_idx_bare U.vm comp
  rw [hvm.bare_eq] at e1
  have hi := e1.symm.trans ((va_idx_bare u.vm comp).trans h2)
  have hkind : k'.kind = .array comp (.array t) := by rw [he]; exact h4
  have f1 : U.vm.findClass (FieldType.array t).toString = some comp := by rw [hvm.findClass]; exact h1
  have f2 : U.vm.findClass ("[" ++ (FieldType.array t).toString) = some c := by rw [hvm.findClass]; exact h5
  unfold va_AOA Cond.before Cond.holds
  simp only [Cond.value]
  rw [f1, Option.bind_some]
  refine (congrArg (fun o : Option Nat => (o.bind (fun c => (U.vm.classes[c]?).map fun (k : Class) => match k.kind with | .array _ ty => decide (ty = FieldType.array t) && decide (U.vm.findClass ("[" ++ (FieldType.array t).toString) = some c) | _ => false) == some true)) hi).trans ?_
  simp [hk', hkind, f2]
theorem kX.warm {s U : State} (hW : s.WarmedH U.vm) (h : kX s) : kX U := by
  obtain ⟨h1, h2, h3, h4, h5, h6, h7, h8, h9, h10, h11⟩ := h
  exact ⟨h1.warmM hW, h2.warmM hW, h3.warmM hW, h4.warmM hW, h5.warmM hW, h6.warmM hW, h7.warmM hW, h8.warmM hW, h9.warmM hW, h10.moved hW.alike, h11.moved hW.alike⟩
theorem kX.calling {U : State} (a : Array Value) (g : JFrame) (mk : MethodId) (h : kX U) : kX (U.calling g mk a) := by
  obtain ⟨h1, h2, h3, h4, h5, h6, h7, h8, h9, h10, h11⟩ := h
  have e : U.vm = (U.calling g mk a).vm := rfl
  exact ⟨h1.same rfl e, h2.same rfl e, h3.same rfl e, h4.same rfl e, h5.same rfl e, h6.same rfl e, h7.same rfl e, h8.same rfl e, h9.same rfl e, h10.moved (Vm.Alike.refl U.vm), h11.moved (Vm.Alike.refl U.vm)⟩
theorem wsL_in {y : MethodName} {cc : ByteArray} {nL : Nat} {rt : Option FieldType} (hc : Cond.code y cc nL rt ∈ wsA) : GoodIn wsA (.code y cc nL rt :: wsA) := by
  intro w hw
  have hm : w ∈ wsA := by
    rcases List.mem_cons.mp hw with e | e
    · rw [e]; exact hc
    · exact e
  exact ⟨hm, good_of_word (List.mem_filter.mp hm).2⟩
/-- the machine stands at pc with these locals and this stack over this world, and comes to its end -/
def kV (M : KM) (E : KE) (nL cells slots : Nat) (ws : va_W) (lv : List (Nat × Value)) (pc : Nat) (st : List Value) : Prop :=
  match E with
  | (p, e, R, s, m, args, below, meth, c, A, Q) => ∀ (H : Heap) (locs : List Loc) (ls : Array Slot), va_P M.1 vwCl ws H → va_D A ws → va_S A s.heap H locs → lv_has ls nL lv → W p M.2.2 e R s m args below meth c H locs cells slots Q (F0 m pc ls st)
/-- what is known of the run: d calls deep, mc cells of ms slots may be made -/
def kG (M : KM) (E : KE) (nL d mc ms : Nat) (cc : ByteArray) (own : String) : Prop :=
  match E with
  | (p, _, R, s, m, args, _, _, c, A, _) => p.tables.exec = Jvm.exec ∧ c.code = cc ∧ c.maxLocals = nL ∧ s.vm.findClass own = some m.cls ∧ (∀ w ∈ wsA, w.before args s = true) ∧ va_K M.1 vwCl (tyM M) s ∧ (∀ q, s.heap.size ≤ q → A q) ∧ kX s ∧ (d ≤ R.frames ∧ 35 * d ≤ R.locals ∧ mc ≤ R.cells ∧ ms ≤ R.slots)
def kN (E : KE) (nm : String) : Prop :=
  match E with
  | (_, _, _, _, _, _, _, meth, _, _, _) => meth.name = nm
def rmD (d mc ms : Nat) : Room := { frames := d, cells := mc, slots := ms, locals := 35 * d }
def kPre (M : KM) (wc : va_W) (sz : Nat) (av : List Value) : Array Value → State → Prop := va_Pc av (fun U => U.heap.size = sz ∧ va_P M.1 vwCl wc U.heap ∧ va_K M.1 vwCl (tyM M) U ∧ va_D (fun _ => True) wc ∧ kX U)
def kB {S : Type} (M : KM) (A : Nat → Prop) (w' : S → va_W) (u : S) (t : State) : Prop := va_P M.1 vwCl (w' u) t.heap ∧ va_D A (w' u)
/-- the contract of a method that answers a number -/
def kCI (M : KM) (y : MethodName) (cc : ByteArray) (nL : Nat) (rt : FieldType) (d mc ms : Nat) (wc : va_W) (av : List Value) {S : Type} (post : Int → S → Prop) (w' : S → va_W) : Prop :=
  ∀ sz : Nat, Met M.2.2 y (.code y cc nL (some rt) :: wsA) (rmD d mc ms) (kPre M wc sz av) (va_Qi (fun r u => ∃ z, r = zI z ∧ post z u) (kB M (va_A wc sz) w') (va_A wc sz)) mc ms (va_A wc sz)
/-- the contract of a method that answers nothing -/
def kCV (M : KM) (y : MethodName) (cc : ByteArray) (nL : Nat) (d mc ms : Nat) (wc : va_W) (av : List Value) {S : Type} (post : S → Prop) (w' : S → va_W) : Prop :=
  ∀ sz : Nat, Met M.2.2 y (.code y cc nL none :: wsA) (rmD d mc ms) (kPre M wc sz av) (va_Qv post (kB M (va_A wc sz) w') (va_A wc sz)) mc ms (va_A wc sz)
theorem kPre.blind {M : KM} {wc : va_W} {sz : Nat} {av : List Value} : FrameBlind (kPre M wc sz av) := by
  intro a U g mk h
  obtain ⟨h1, h2, h3, h4, h5, h6⟩ := h
  exact ⟨h1, h2, h3, va_K.moved (u := U) (U := U.calling g mk a) (Vm.Alike.refl U.vm) h4, h5, h6.calling a g mk⟩
set_option maxHeartbeats 4000000 in
theorem kCI.of {M : KM} {y : MethodName} {cc : ByteArray} {nL : Nat} {rt : FieldType} {d mc ms : Nat} {wc : va_W} {av : List Value} {S : Type} {post : Int → S → Prop} {w' : S → va_W} (lv : List (Nat × Value)) (hy : plainName y.cls = true) (hn : (lg_sl av).length ≤ nL) (hlv : lv_args 0 av = lv)
    (body : ∀ E : KE, kG M E nL d mc ms cc y.cls → (∀ (z : Int) (u : S) (pc : Nat) (lv : List (Nat × Value)) (cells slots : Nat), cells ≤ mc → slots ≤ ms → decode cc pc = .ok (.ireturn, 1) → narrow rt (.int (zI z)) = .int (zI z) → post z u → kV M E nL cells slots (w' u) lv pc [.int (zI z)]) → kV M E nL 0 0 wc lv 0 []) : kCI M y cc nL rt d mc ms wc av post w' := by
  intro sz
  refine Met.ofW (cc := cc) (maxL := nL) (ret := some rt) hy rfl ?_
  intro p e s m args below meth c s₁ B hml hv
  obtain ⟨rfl, hsz, hP, hK, hD0, hX⟩ := hv
  have hts := atoms_spec (ws := .code y cc nL (some rt) :: wsA) B.pre
  have hown : s.vm.findClass y.cls = some m.cls := findClass_of_methodNamed B.named
  have hlocks := B.notSynchronized
  have hr := B.returns
  have hb := B.bytes
  have hx := B.exec
  subst hsz
  have hD := hD0.self (sz := s.heap.size)
  have hl := lv_entry av (n := nL) hn
  rw [lg_entry_eq]
  rw [hlv] at hl
  refine body (p, e, _, s, m, av.toArray, below, meth, c, va_A wc s.heap.size, _) ⟨hx, hb, hml, hown, fun w hw => hts w (List.mem_cons_of_mem _ hw), hK, fun q h => Or.inr h, hX, Nat.le_refl _, Nat.le_refl _, Nat.le_refl _, Nat.le_refl _⟩ ?_ s.heap [] _ hP hD va_S.rf hl
  intro z u pc lv2 cells slots h1 h2 hdg hnar hp H locs ls hP2 hD2 hS2 hl2
  refine W.widen (k := mc) (n := ms) h1 h2 ?_
  exact W.zret hx hb hr hnar (fun t ht hW => ⟨⟨_, u, rfl, ⟨z, rfl, hp⟩, by rw [ht]; exact hP2, hD2⟩, hS2.F ht⟩) hS2.2.2 hdg
set_option maxHeartbeats 4000000 in
theorem kCV.of {M : KM} {y : MethodName} {cc : ByteArray} {nL : Nat} {d mc ms : Nat} {wc : va_W} {av : List Value} {S : Type} {post : S → Prop} {w' : S → va_W} (lv : List (Nat × Value)) (hy : plainName y.cls = true) (hn : (lg_sl av).length ≤ nL) (hlv : lv_args 0 av = lv)
    (body : ∀ E : KE, kG M E nL d mc ms cc y.cls → kN E y.name → (∀ (u : S) (pc : Nat) (lv : List (Nat × Value)) (cells slots : Nat), cells ≤ mc → slots ≤ ms → decode cc pc = .ok (.return_, 1) → post u → kV M E nL cells slots (w' u) lv pc []) → kV M E nL 0 0 wc lv 0 []) : kCV M y cc nL d mc ms wc av post w' := by
  intro sz
  refine Met.ofW (cc := cc) (maxL := nL) (ret := none) hy rfl ?_
  intro p e s m args below meth c s₁ B hml hv
  obtain ⟨rfl, hsz, hP, hK, hD0, hX⟩ := hv
  have hts := atoms_spec (ws := .code y cc nL none :: wsA) B.pre
  have hown : s.vm.findClass y.cls = some m.cls := findClass_of_methodNamed B.named
  have hnm : meth.name = y.name := (name_of_methodNamed B.named B.method).1
  have hlocks := B.notSynchronized
  have hr := B.returns
  have hb := B.bytes
  have hx := B.exec
  subst hsz
  have hD := hD0.self (sz := s.heap.size)
  have hl := lv_entry av (n := nL) hn
  rw [lg_entry_eq]
  rw [hlv] at hl
  refine body (p, e, _, s, m, av.toArray, below, meth, c, va_A wc s.heap.size, _) ⟨hx, hb, hml, hown, fun w hw => hts w (List.mem_cons_of_mem _ hw), hK, fun q h => Or.inr h, hX, Nat.le_refl _, Nat.le_refl _, Nat.le_refl _, Nat.le_refl _⟩ hnm ?_ s.heap [] _ hP hD va_S.rf hl
  intro u pc lv2 cells slots h1 h2 hdg hp H locs ls hP2 hD2 hS2 hl2
  refine W.widen (k := mc) (n := ms) h1 h2 ?_
  exact W.vret hx hb hr (fun t ht hW => ⟨⟨u, rfl, hp, by rw [ht]; exact hP2, hD2⟩, hS2.F ht⟩) hS2.2.2 hdg
section KR
variable {M : KM} {E : KE} {nL cells slots d mc ms : Nat} {ws : va_W} {lv : List (Nat × Value)} {st : List Value} {cc : ByteArray} {own : String}
theorem z_iconst {pc : Nat} {n : Int} (g : kG M E nL d mc ms cc own) (hd : decode cc pc = .ok (.iconst n, 1)) (k : kV M E nL cells slots ws lv (pc + 1) (.int (zI n) :: st)) : kV M E nL cells slots ws lv pc (st) := by
  obtain ⟨p, e, R, s, m, args, below, meth, c, A, Q⟩ := E
  obtain ⟨hx, hb, hml, hown, hts, hK, hA, hX, hR1, hR2, hR3, hR4⟩ := g
  intro H locs ls hP hD hS hl
  refine lv_iconst hx hb hd rfl ?_
  exact k H locs ls hP hD hS hl
theorem z_bipush {pc : Nat} {n : Int} (g : kG M E nL d mc ms cc own) (hd : decode cc pc = .ok (.bipush n, 2)) (hv : (Int8.ofInt n).toInt32 = zI n) (k : kV M E nL cells slots ws lv (pc + 2) (.int (zI n) :: st)) : kV M E nL cells slots ws lv pc (st) := by
  obtain ⟨p, e, R, s, m, args, below, meth, c, A, Q⟩ := E
  obtain ⟨hx, hb, hml, hown, hts, hK, hA, hX, hR1, hR2, hR3, hR4⟩ := g
  intro H locs ls hP hD hS hl
  refine lv_bipush hx hb hd hv ?_
  exact k H locs ls hP hD hS hl
theorem z_sipush {pc : Nat} {n : Int} (g : kG M E nL d mc ms cc own) (hd : decode cc pc = .ok (.sipush n, 3)) (hv : (Int16.ofInt n).toInt32 = zI n) (k : kV M E nL cells slots ws lv (pc + 3) (.int (zI n) :: st)) : kV M E nL cells slots ws lv pc (st) := by
  obtain ⟨p, e, R, s, m, args, below, meth, c, A, Q⟩ := E
  obtain ⟨hx, hb, hml, hown, hts, hK, hA, hX, hR1, hR2, hR3, hR4⟩ := g
  intro H locs ls hP hD hS hl
  refine lv_sipush hx hb hd hv ?_
  exact k H locs ls hP hD hS hl
theorem z_ldc {pc : Nat} {v : Int32} {n : Int} {index : Nat} (g : kG M E nL d mc ms cc own) (hd : decode cc pc = .ok (.ldc index, 2)) (hc : Cond.constant own index v ∈ wsA) (hv : v = zI n) (k : kV M E nL cells slots ws lv (pc + 2) (.int (zI n) :: st)) : kV M E nL cells slots ws lv pc (st) := by
  obtain ⟨p, e, R, s, m, args, below, meth, c, A, Q⟩ := E
  obtain ⟨hx, hb, hml, hown, hts, hK, hA, hX, hR1, hR2, hR3, hR4⟩ := g
  intro H locs ls hP hD hS hl
  subst hv
  refine lv_ldc hx hb hown (hts _ hc) hd ?_
  exact k H locs ls hP hD hS hl
theorem z_iload_n {pc : Nat} {j : Fin 4} {i : Nat} {v : Int} (q : Nat) (g : kG M E nL d mc ms cc own) (hd : decode cc pc = .ok (.iload_n j, 1)) (hi : (j : Nat) = i) (hq : lv[q]? = some (i, .int (zI v))) (k : kV M E nL cells slots ws lv (pc + 1) (.int (zI v) :: st)) : kV M E nL cells slots ws lv pc (st) := by
  obtain ⟨p, e, R, s, m, args, below, meth, c, A, Q⟩ := E
  obtain ⟨hx, hb, hml, hown, hts, hK, hA, hX, hR1, hR2, hR3, hR4⟩ := g
  intro H locs ls hP hD hS hl
  refine lv_iload_n hx hb hd hi (lv_at hl q hq) ?_
  exact k H locs ls hP hD hS hl
theorem z_iload {pc : Nat} {i : Nat} {v : Int} (q : Nat) (g : kG M E nL d mc ms cc own) (hd : decode cc pc = .ok (.iload i, 2)) (hq : lv[q]? = some (i, .int (zI v))) (k : kV M E nL cells slots ws lv (pc + 2) (.int (zI v) :: st)) : kV M E nL cells slots ws lv pc (st) := by
  obtain ⟨p, e, R, s, m, args, below, meth, c, A, Q⟩ := E
  obtain ⟨hx, hb, hml, hown, hts, hK, hA, hX, hR1, hR2, hR3, hR4⟩ := g
  intro H locs ls hP hD hS hl
  refine lv_iload hx hb hd (lv_at hl q hq) ?_
  exact k H locs ls hP hD hS hl
theorem z_aload_n {pc : Nat} {j : Fin 4} {i : Nat} {v : Nat} (q : Nat) (g : kG M E nL d mc ms cc own) (hd : decode cc pc = .ok (.aload_n j, 1)) (hi : (j : Nat) = i) (hq : lv[q]? = some (i, .ref v)) (k : kV M E nL cells slots ws lv (pc + 1) (.ref v :: st)) : kV M E nL cells slots ws lv pc (st) := by
  obtain ⟨p, e, R, s, m, args, below, meth, c, A, Q⟩ := E
  obtain ⟨hx, hb, hml, hown, hts, hK, hA, hX, hR1, hR2, hR3, hR4⟩ := g
  intro H locs ls hP hD hS hl
  refine lv_aload_n hx hb hd hi (lv_at hl q hq) ?_
  exact k H locs ls hP hD hS hl
theorem z_aload {pc : Nat} {i : Nat} {v : Nat} (q : Nat) (g : kG M E nL d mc ms cc own) (hd : decode cc pc = .ok (.aload i, 2)) (hq : lv[q]? = some (i, .ref v)) (k : kV M E nL cells slots ws lv (pc + 2) (.ref v :: st)) : kV M E nL cells slots ws lv pc (st) := by
  obtain ⟨p, e, R, s, m, args, below, meth, c, A, Q⟩ := E
  obtain ⟨hx, hb, hml, hown, hts, hK, hA, hX, hR1, hR2, hR3, hR4⟩ := g
  intro H locs ls hP hD hS hl
  refine lv_aload hx hb hd (lv_at hl q hq) ?_
  exact k H locs ls hP hD hS hl
theorem z_istore_n {pc : Nat} {j : Fin 4} {i : Nat} {v : Int} (lv' : List (Nat × Value)) (g : kG M E nL d mc ms cc own) (hd : decode cc pc = .ok (.istore_n j, 1)) (hi : (j : Nat) = i) (hn : i < nL) (hlv : (i, Value.int (zI v)) :: lv.filter (fun q => !(q.1 == i) && !(q.1 + 1 == i && q.2.category == 2)) = lv') (k : kV M E nL cells slots ws lv' (pc + 1) st) : kV M E nL cells slots ws lv pc (Value.int (zI v) :: st) := by
  obtain ⟨p, e, R, s, m, args, below, meth, c, A, Q⟩ := E
  obtain ⟨hx, hb, hml, hown, hts, hK, hA, hX, hR1, hR2, hR3, hR4⟩ := g
  intro H locs ls hP hD hS hl
  refine lv_istore_n hx hb hd hi hl hn hlv (fun ls2 hl2 => ?_)
  exact k H locs ls2 hP hD hS hl2
theorem z_istore {pc : Nat} {i : Nat} {v : Int} (lv' : List (Nat × Value)) (g : kG M E nL d mc ms cc own) (hd : decode cc pc = .ok (.istore i, 2)) (hn : i < nL) (hlv : (i, Value.int (zI v)) :: lv.filter (fun q => !(q.1 == i) && !(q.1 + 1 == i && q.2.category == 2)) = lv') (k : kV M E nL cells slots ws lv' (pc + 2) st) : kV M E nL cells slots ws lv pc (Value.int (zI v) :: st) := by
  obtain ⟨p, e, R, s, m, args, below, meth, c, A, Q⟩ := E
  obtain ⟨hx, hb, hml, hown, hts, hK, hA, hX, hR1, hR2, hR3, hR4⟩ := g
  intro H locs ls hP hD hS hl
  refine lv_istore hx hb hd hl hn hlv (fun ls2 hl2 => ?_)
  exact k H locs ls2 hP hD hS hl2
theorem z_astore_n {pc : Nat} {j : Fin 4} {i : Nat} {v : Nat} (lv' : List (Nat × Value)) (g : kG M E nL d mc ms cc own) (hd : decode cc pc = .ok (.astore_n j, 1)) (hi : (j : Nat) = i) (hn : i < nL) (hlv : (i, Value.ref v) :: lv.filter (fun q => !(q.1 == i) && !(q.1 + 1 == i && q.2.category == 2)) = lv') (k : kV M E nL cells slots ws lv' (pc + 1) st) : kV M E nL cells slots ws lv pc (Value.ref v :: st) := by
  obtain ⟨p, e, R, s, m, args, below, meth, c, A, Q⟩ := E
  obtain ⟨hx, hb, hml, hown, hts, hK, hA, hX, hR1, hR2, hR3, hR4⟩ := g
  intro H locs ls hP hD hS hl
  refine lv_astore_n hx hb hd hi hl hn hlv (fun ls2 hl2 => ?_)
  exact k H locs ls2 hP hD hS hl2
theorem z_astore {pc : Nat} {i : Nat} {v : Nat} (lv' : List (Nat × Value)) (g : kG M E nL d mc ms cc own) (hd : decode cc pc = .ok (.astore i, 2)) (hn : i < nL) (hlv : (i, Value.ref v) :: lv.filter (fun q => !(q.1 == i) && !(q.1 + 1 == i && q.2.category == 2)) = lv') (k : kV M E nL cells slots ws lv' (pc + 2) st) : kV M E nL cells slots ws lv pc (Value.ref v :: st) := by
  obtain ⟨p, e, R, s, m, args, below, meth, c, A, Q⟩ := E
  obtain ⟨hx, hb, hml, hown, hts, hK, hA, hX, hR1, hR2, hR3, hR4⟩ := g
  intro H locs ls hP hD hS hl
  refine lv_astore hx hb hd hl hn hlv (fun ls2 hl2 => ?_)
  exact k H locs ls2 hP hD hS hl2
theorem z_iinc {pc i : Nat} {n v : Int} (q : Nat) (lv' : List (Nat × Value)) (g : kG M E nL d mc ms cc own) (hd : decode cc pc = .ok (.iinc i n, 3)) (hq : lv[q]? = some (i, .int (zI v))) (hn : i < nL) (hlv : (i, Value.int (zI (v + n))) :: lv.filter (fun q => !(q.1 == i) && !(q.1 + 1 == i && q.2.category == 2)) = lv') (k : kV M E nL cells slots ws lv' (pc + 3) st) : kV M E nL cells slots ws lv pc st := by
  obtain ⟨p, e, R, s, m, args, below, meth, c, A, Q⟩ := E
  obtain ⟨hx, hb, hml, hown, hts, hK, hA, hX, hR1, hR2, hR3, hR4⟩ := g
  intro H locs ls hP hD hS hl
  refine lv_iinc hx hb hd hl hq (zI_add v n) hn hlv (fun ls2 hl2 => ?_)
  exact k H locs ls2 hP hD hS hl2
theorem z_iadd {pc : Nat} {a b : Int} (g : kG M E nL d mc ms cc own) (hd : decode cc pc = .ok (.iadd, 1)) (k : kV M E nL cells slots ws lv (pc + 1) (.int (zI (a + b)) :: st)) : kV M E nL cells slots ws lv pc (.int (zI b) :: .int (zI a) :: st) := by
  obtain ⟨p, e, R, s, m, args, below, meth, c, A, Q⟩ := E
  obtain ⟨hx, hb, hml, hown, hts, hK, hA, hX, hR1, hR2, hR3, hR4⟩ := g
  intro H locs ls hP hD hS hl
  refine lv_iadd hx hb hd ?_
  rw [zI_add]
  exact k H locs ls hP hD hS hl
theorem z_isub {pc : Nat} {a b : Int} (g : kG M E nL d mc ms cc own) (hd : decode cc pc = .ok (.isub, 1)) (k : kV M E nL cells slots ws lv (pc + 1) (.int (zI (a - b)) :: st)) : kV M E nL cells slots ws lv pc (.int (zI b) :: .int (zI a) :: st) := by
  obtain ⟨p, e, R, s, m, args, below, meth, c, A, Q⟩ := E
  obtain ⟨hx, hb, hml, hown, hts, hK, hA, hX, hR1, hR2, hR3, hR4⟩ := g
  intro H locs ls hP hD hS hl
  refine lv_isub hx hb hd ?_
  rw [zI_sub]
  exact k H locs ls hP hD hS hl
theorem z_imul {pc : Nat} {a b : Int} (g : kG M E nL d mc ms cc own) (hd : decode cc pc = .ok (.imul, 1)) (k : kV M E nL cells slots ws lv (pc + 1) (.int (zI (a * b)) :: st)) : kV M E nL cells slots ws lv pc (.int (zI b) :: .int (zI a) :: st) := by
  obtain ⟨p, e, R, s, m, args, below, meth, c, A, Q⟩ := E
  obtain ⟨hx, hb, hml, hown, hts, hK, hA, hX, hR1, hR2, hR3, hR4⟩ := g
  intro H locs ls hP hD hS hl
  refine lv_imul hx hb hd ?_
  rw [zI_mul]
  exact k H locs ls hP hD hS hl
theorem z_iand {pc : Nat} {a b : Int} (g : kG M E nL d mc ms cc own) (hd : decode cc pc = .ok (.iand, 1)) (k : kV M E nL cells slots ws lv (pc + 1) (.int (zI (zAnd a b)) :: st)) : kV M E nL cells slots ws lv pc (.int (zI b) :: .int (zI a) :: st) := by
  obtain ⟨p, e, R, s, m, args, below, meth, c, A, Q⟩ := E
  obtain ⟨hx, hb, hml, hown, hts, hK, hA, hX, hR1, hR2, hR3, hR4⟩ := g
  intro H locs ls hP hD hS hl
  refine lv_iand hx hb hd ?_
  rw [show zI (zAnd a b) = _ from zI_self _] at k
  exact k H locs ls hP hD hS hl
theorem z_ior {pc : Nat} {a b : Int} (g : kG M E nL d mc ms cc own) (hd : decode cc pc = .ok (.ior, 1)) (k : kV M E nL cells slots ws lv (pc + 1) (.int (zI (zOr a b)) :: st)) : kV M E nL cells slots ws lv pc (.int (zI b) :: .int (zI a) :: st) := by
  obtain ⟨p, e, R, s, m, args, below, meth, c, A, Q⟩ := E
  obtain ⟨hx, hb, hml, hown, hts, hK, hA, hX, hR1, hR2, hR3, hR4⟩ := g
  intro H locs ls hP hD hS hl
  refine lv_ior hx hb hd ?_
  rw [show zI (zOr a b) = _ from zI_self _] at k
  exact k H locs ls hP hD hS hl
theorem z_ishl {pc : Nat} {a b : Int} (g : kG M E nL d mc ms cc own) (hd : decode cc pc = .ok (.ishl, 1)) (k : kV M E nL cells slots ws lv (pc + 1) (.int (zI (zShl a b)) :: st)) : kV M E nL cells slots ws lv pc (.int (zI b) :: .int (zI a) :: st) := by
  obtain ⟨p, e, R, s, m, args, below, meth, c, A, Q⟩ := E
  obtain ⟨hx, hb, hml, hown, hts, hK, hA, hX, hR1, hR2, hR3, hR4⟩ := g
  intro H locs ls hP hD hS hl
  refine lv_ishl hx hb hd ?_
  rw [show zI (zShl a b) = _ from zI_self _] at k
  exact k H locs ls hP hD hS hl
theorem z_ishr {pc : Nat} {a b : Int} (g : kG M E nL d mc ms cc own) (hd : decode cc pc = .ok (.ishr, 1)) (k : kV M E nL cells slots ws lv (pc + 1) (.int (zI (zShr a b)) :: st)) : kV M E nL cells slots ws lv pc (.int (zI b) :: .int (zI a) :: st) := by
  obtain ⟨p, e, R, s, m, args, below, meth, c, A, Q⟩ := E
  obtain ⟨hx, hb, hml, hown, hts, hK, hA, hX, hR1, hR2, hR3, hR4⟩ := g
  intro H locs ls hP hD hS hl
  refine lv_ishr hx hb hd ?_
  rw [show zI (zShr a b) = _ from zI_self _] at k
  exact k H locs ls hP hD hS hl
theorem z_idiv {pc : Nat} {a b : Int} (g : kG M E nL d mc ms cc own) (hd : decode cc pc = .ok (.idiv, 1)) (ha : zR a) (hb2 : zR b) (h0 : b ≠ 0) (k : kV M E nL cells slots ws lv (pc + 1) (.int (zI (a.tdiv b)) :: st)) : kV M E nL cells slots ws lv pc (.int (zI b) :: .int (zI a) :: st) := by
  obtain ⟨p, e, R, s, m, args, below, meth, c, A, Q⟩ := E
  obtain ⟨hx, hb, hml, hown, hts, hK, hA, hX, hR1, hR2, hR3, hR4⟩ := g
  intro H locs ls hP hD hS hl
  refine lv_idiv hx hb hd (fun e => h0 ((zI_inj hb2 zR_0).mp (by rw [zI_0]; exact e))) ?_
  rw [zI_div ha hb2]
  exact k H locs ls hP hD hS hl
theorem z_idivn {pc : Nat} {a b : Int} (g : kG M E nL d mc ms cc own) (hd : decode cc pc = .ok (.idiv, 1)) (ha0 : 0 ≤ a) (ha1 : a ≤ 2147483647) (hb0 : 0 < b) (hb1 : b ≤ 2147483647) (k : kV M E nL cells slots ws lv (pc + 1) (.int (zI (a / b)) :: st)) : kV M E nL cells slots ws lv pc (.int (zI b) :: .int (zI a) :: st) := by
  obtain ⟨p, e, R, s, m, args, below, meth, c, A, Q⟩ := E
  obtain ⟨hx, hb, hml, hown, hts, hK, hA, hX, hR1, hR2, hR3, hR4⟩ := g
  intro H locs ls hP hD hS hl
  have ha : zR a := ⟨by omega, by omega⟩
  have hb2 : zR b := ⟨by omega, by omega⟩
  refine lv_idiv hx hb hd (fun e => absurd ((zI_inj hb2 zR_0).mp (by rw [zI_0]; exact e)) (by omega)) ?_
  rw [zI_div ha hb2, Int.tdiv_eq_ediv_of_nonneg ha0]
  exact k H locs ls hP hD hS hl
theorem z_iremn {pc : Nat} {a b : Int} (g : kG M E nL d mc ms cc own) (hd : decode cc pc = .ok (.irem, 1)) (ha0 : 0 ≤ a) (ha1 : a ≤ 2147483647) (hb0 : 0 < b) (hb1 : b ≤ 2147483647) (k : kV M E nL cells slots ws lv (pc + 1) (.int (zI (a % b)) :: st)) : kV M E nL cells slots ws lv pc (.int (zI b) :: .int (zI a) :: st) := by
  obtain ⟨p, e, R, s, m, args, below, meth, c, A, Q⟩ := E
  obtain ⟨hx, hb, hml, hown, hts, hK, hA, hX, hR1, hR2, hR3, hR4⟩ := g
  intro H locs ls hP hD hS hl
  have ha : zR a := ⟨by omega, by omega⟩
  have hb2 : zR b := ⟨by omega, by omega⟩
  refine lv_irem hx hb hd (fun e => absurd ((zI_inj hb2 zR_0).mp (by rw [zI_0]; exact e)) (by omega)) ?_
  rw [zI_div ha hb2, Int.tdiv_eq_ediv_of_nonneg ha0, zI_mul, zI_sub, show a - a / b * b = a % b by rw [Int.emod_def, Int.mul_comm]]
  exact k H locs ls hP hD hS hl
theorem z_dup {pc : Nat} {v : Value} (g : kG M E nL d mc ms cc own) (hd : decode cc pc = .ok (.dup, 1)) (hv : v.category = 1) (k : kV M E nL cells slots ws lv (pc + 1) (v :: v :: st)) : kV M E nL cells slots ws lv pc (v :: st) := by
  obtain ⟨p, e, R, s, m, args, below, meth, c, A, Q⟩ := E
  obtain ⟨hx, hb, hml, hown, hts, hK, hA, hX, hR1, hR2, hR3, hR4⟩ := g
  intro H locs ls hP hD hS hl
  refine lv_dup hx hb hd hv ?_
  exact k H locs ls hP hD hS hl
theorem z_pop {pc : Nat} {v : Value} (g : kG M E nL d mc ms cc own) (hd : decode cc pc = .ok (.pop, 1)) (hv : v.category = 1) (k : kV M E nL cells slots ws lv (pc + 1) (st)) : kV M E nL cells slots ws lv pc (v :: st) := by
  obtain ⟨p, e, R, s, m, args, below, meth, c, A, Q⟩ := E
  obtain ⟨hx, hb, hml, hown, hts, hK, hA, hX, hR1, hR2, hR3, hR4⟩ := g
  intro H locs ls hP hD hS hl
  refine lv_pop hx hb hd hv ?_
  exact k H locs ls hP hD hS hl
theorem z_dup2 {pc : Nat} {v w : Value} (g : kG M E nL d mc ms cc own) (hd : decode cc pc = .ok (.dup2, 1)) (hv : v.category = 1) (hw : w.category = 1) (k : kV M E nL cells slots ws lv (pc + 1) (v :: w :: v :: w :: st)) : kV M E nL cells slots ws lv pc (v :: w :: st) := by
  obtain ⟨p, e, R, s, m, args, below, meth, c, A, Q⟩ := E
  obtain ⟨hx, hb, hml, hown, hts, hK, hA, hX, hR1, hR2, hR3, hR4⟩ := g
  intro H locs ls hP hD hS hl
  refine lv_dup2_11 hx hb hd hv hw ?_
  exact k H locs ls hP hD hS hl
theorem z_icmp_eq {pc : Nat} {a b off : Int} (tgt : Nat) (g : kG M E nL d mc ms cc own) (hd : decode cc pc = .ok (.if_icmp .eq off, 3)) (ht : (pc : Int) + off = (tgt : Int)) (ha : zR a) (hb2 : zR b) (kt : a = b → kV M E nL cells slots ws lv tgt st) (kf : ¬ a = b → kV M E nL cells slots ws lv (pc + 3) st) : kV M E nL cells slots ws lv pc (.int (zI b) :: .int (zI a) :: st) := by
  obtain ⟨p, e, R, s, m, args, below, meth, c, A, Q⟩ := E
  obtain ⟨hx, hb, hml, hown, hts, hK, hA, hX, hR1, hR2, hR3, hR4⟩ := g
  intro H locs ls hP hD hS hl
  exact lv_icmp_eq hx hb hd ht (fun h => kt ((zI_inj ha hb2).mp h) H locs ls hP hD hS hl) (fun h => kf (fun q => h ((zI_inj ha hb2).mpr q)) H locs ls hP hD hS hl)
theorem z_icmp_ne {pc : Nat} {a b off : Int} (tgt : Nat) (g : kG M E nL d mc ms cc own) (hd : decode cc pc = .ok (.if_icmp .ne off, 3)) (ht : (pc : Int) + off = (tgt : Int)) (ha : zR a) (hb2 : zR b) (kt : ¬ a = b → kV M E nL cells slots ws lv tgt st) (kf : a = b → kV M E nL cells slots ws lv (pc + 3) st) : kV M E nL cells slots ws lv pc (.int (zI b) :: .int (zI a) :: st) := by
  obtain ⟨p, e, R, s, m, args, below, meth, c, A, Q⟩ := E
  obtain ⟨hx, hb, hml, hown, hts, hK, hA, hX, hR1, hR2, hR3, hR4⟩ := g
  intro H locs ls hP hD hS hl
  exact lv_icmp_ne hx hb hd ht (fun h => kt ((not_congr (zI_inj ha hb2)).mp h) H locs ls hP hD hS hl) (fun h => kf ((zI_inj ha hb2).mp h) H locs ls hP hD hS hl)
theorem z_icmp_lt {pc : Nat} {a b off : Int} (tgt : Nat) (g : kG M E nL d mc ms cc own) (hd : decode cc pc = .ok (.if_icmp .lt off, 3)) (ht : (pc : Int) + off = (tgt : Int)) (ha : zR a) (hb2 : zR b) (kt : a < b → kV M E nL cells slots ws lv tgt st) (kf : ¬ a < b → kV M E nL cells slots ws lv (pc + 3) st) : kV M E nL cells slots ws lv pc (.int (zI b) :: .int (zI a) :: st) := by
  obtain ⟨p, e, R, s, m, args, below, meth, c, A, Q⟩ := E
  obtain ⟨hx, hb, hml, hown, hts, hK, hA, hX, hR1, hR2, hR3, hR4⟩ := g
  intro H locs ls hP hD hS hl
  exact lv_icmp_lt hx hb hd ht (fun h => kt ((zI_lt ha hb2).mp h) H locs ls hP hD hS hl) (fun h => kf (fun q => h ((zI_lt ha hb2).mpr q)) H locs ls hP hD hS hl)
theorem z_icmp_ge {pc : Nat} {a b off : Int} (tgt : Nat) (g : kG M E nL d mc ms cc own) (hd : decode cc pc = .ok (.if_icmp .ge off, 3)) (ht : (pc : Int) + off = (tgt : Int)) (ha : zR a) (hb2 : zR b) (kt : b ≤ a → kV M E nL cells slots ws lv tgt st) (kf : ¬ b ≤ a → kV M E nL cells slots ws lv (pc + 3) st) : kV M E nL cells slots ws lv pc (.int (zI b) :: .int (zI a) :: st) := by
  obtain ⟨p, e, R, s, m, args, below, meth, c, A, Q⟩ := E
  obtain ⟨hx, hb, hml, hown, hts, hK, hA, hX, hR1, hR2, hR3, hR4⟩ := g
  intro H locs ls hP hD hS hl
  exact lv_icmp_ge hx hb hd ht (fun h => kt ((zI_le hb2 ha).mp h) H locs ls hP hD hS hl) (fun h => kf (fun q => h ((zI_le hb2 ha).mpr q)) H locs ls hP hD hS hl)
theorem z_icmp_gt {pc : Nat} {a b off : Int} (tgt : Nat) (g : kG M E nL d mc ms cc own) (hd : decode cc pc = .ok (.if_icmp .gt off, 3)) (ht : (pc : Int) + off = (tgt : Int)) (ha : zR a) (hb2 : zR b) (kt : b < a → kV M E nL cells slots ws lv tgt st) (kf : ¬ b < a → kV M E nL cells slots ws lv (pc + 3) st) : kV M E nL cells slots ws lv pc (.int (zI b) :: .int (zI a) :: st) := by
  obtain ⟨p, e, R, s, m, args, below, meth, c, A, Q⟩ := E
  obtain ⟨hx, hb, hml, hown, hts, hK, hA, hX, hR1, hR2, hR3, hR4⟩ := g
  intro H locs ls hP hD hS hl
  exact lv_icmp_gt hx hb hd ht (fun h => kt ((zI_lt hb2 ha).mp h) H locs ls hP hD hS hl) (fun h => kf (fun q => h ((zI_lt hb2 ha).mpr q)) H locs ls hP hD hS hl)
theorem z_icmp_le {pc : Nat} {a b off : Int} (tgt : Nat) (g : kG M E nL d mc ms cc own) (hd : decode cc pc = .ok (.if_icmp .le off, 3)) (ht : (pc : Int) + off = (tgt : Int)) (ha : zR a) (hb2 : zR b) (kt : a ≤ b → kV M E nL cells slots ws lv tgt st) (kf : ¬ a ≤ b → kV M E nL cells slots ws lv (pc + 3) st) : kV M E nL cells slots ws lv pc (.int (zI b) :: .int (zI a) :: st) := by
  obtain ⟨p, e, R, s, m, args, below, meth, c, A, Q⟩ := E
  obtain ⟨hx, hb, hml, hown, hts, hK, hA, hX, hR1, hR2, hR3, hR4⟩ := g
  intro H locs ls hP hD hS hl
  exact lv_icmp_le hx hb hd ht (fun h => kt ((zI_le ha hb2).mp h) H locs ls hP hD hS hl) (fun h => kf (fun q => h ((zI_le ha hb2).mpr q)) H locs ls hP hD hS hl)
theorem z_if_eq {pc : Nat} {a off : Int} (tgt : Nat) (g : kG M E nL d mc ms cc own) (hd : decode cc pc = .ok (.ifCond .eq off, 3)) (ht : (pc : Int) + off = (tgt : Int)) (ha : zR a) (kt : a = 0 → kV M E nL cells slots ws lv tgt st) (kf : ¬ a = 0 → kV M E nL cells slots ws lv (pc + 3) st) : kV M E nL cells slots ws lv pc (.int (zI a) :: st) := by
  obtain ⟨p, e, R, s, m, args, below, meth, c, A, Q⟩ := E
  obtain ⟨hx, hb, hml, hown, hts, hK, hA, hX, hR1, hR2, hR3, hR4⟩ := g
  intro H locs ls hP hD hS hl
  exact lv_if_eq hx hb hd ht (fun h => kt ((zI_inj ha zR_0).mp (by rw [zI_0]; exact h)) H locs ls hP hD hS hl) (fun h => kf (fun q => h (by have h9 := (zI_inj ha zR_0).mpr q; rw [zI_0] at h9; exact h9)) H locs ls hP hD hS hl)
theorem z_if_ne {pc : Nat} {a off : Int} (tgt : Nat) (g : kG M E nL d mc ms cc own) (hd : decode cc pc = .ok (.ifCond .ne off, 3)) (ht : (pc : Int) + off = (tgt : Int)) (ha : zR a) (kt : ¬ a = 0 → kV M E nL cells slots ws lv tgt st) (kf : a = 0 → kV M E nL cells slots ws lv (pc + 3) st) : kV M E nL cells slots ws lv pc (.int (zI a) :: st) := by
  obtain ⟨p, e, R, s, m, args, below, meth, c, A, Q⟩ := E
  obtain ⟨hx, hb, hml, hown, hts, hK, hA, hX, hR1, hR2, hR3, hR4⟩ := g
  intro H locs ls hP hD hS hl
  exact lv_if_ne hx hb hd ht (fun h => kt ((not_congr (zI_inj ha zR_0)).mp (by rw [zI_0]; exact h)) H locs ls hP hD hS hl) (fun h => kf ((zI_inj ha zR_0).mp (by rw [zI_0]; exact h)) H locs ls hP hD hS hl)
theorem z_if_lt {pc : Nat} {a off : Int} (tgt : Nat) (g : kG M E nL d mc ms cc own) (hd : decode cc pc = .ok (.ifCond .lt off, 3)) (ht : (pc : Int) + off = (tgt : Int)) (ha : zR a) (kt : a < 0 → kV M E nL cells slots ws lv tgt st) (kf : ¬ a < 0 → kV M E nL cells slots ws lv (pc + 3) st) : kV M E nL cells slots ws lv pc (.int (zI a) :: st) := by
  obtain ⟨p, e, R, s, m, args, below, meth, c, A, Q⟩ := E
  obtain ⟨hx, hb, hml, hown, hts, hK, hA, hX, hR1, hR2, hR3, hR4⟩ := g
  intro H locs ls hP hD hS hl
  exact lv_if_lt hx hb hd ht (fun h => kt ((zI_lt ha zR_0).mp (by rw [zI_0]; exact h)) H locs ls hP hD hS hl) (fun h => kf (fun q => h (by have h9 := (zI_lt ha zR_0).mpr q; rw [zI_0] at h9; exact h9)) H locs ls hP hD hS hl)
theorem z_if_ge {pc : Nat} {a off : Int} (tgt : Nat) (g : kG M E nL d mc ms cc own) (hd : decode cc pc = .ok (.ifCond .ge off, 3)) (ht : (pc : Int) + off = (tgt : Int)) (ha : zR a) (kt : 0 ≤ a → kV M E nL cells slots ws lv tgt st) (kf : ¬ 0 ≤ a → kV M E nL cells slots ws lv (pc + 3) st) : kV M E nL cells slots ws lv pc (.int (zI a) :: st) := by
  obtain ⟨p, e, R, s, m, args, below, meth, c, A, Q⟩ := E
  obtain ⟨hx, hb, hml, hown, hts, hK, hA, hX, hR1, hR2, hR3, hR4⟩ := g
  intro H locs ls hP hD hS hl
  exact lv_if_ge hx hb hd ht (fun h => kt ((zI_le zR_0 ha).mp (by rw [zI_0]; exact h)) H locs ls hP hD hS hl) (fun h => kf (fun q => h (by have h9 := (zI_le zR_0 ha).mpr q; rw [zI_0] at h9; exact h9)) H locs ls hP hD hS hl)
theorem z_if_gt {pc : Nat} {a off : Int} (tgt : Nat) (g : kG M E nL d mc ms cc own) (hd : decode cc pc = .ok (.ifCond .gt off, 3)) (ht : (pc : Int) + off = (tgt : Int)) (ha : zR a) (kt : 0 < a → kV M E nL cells slots ws lv tgt st) (kf : ¬ 0 < a → kV M E nL cells slots ws lv (pc + 3) st) : kV M E nL cells slots ws lv pc (.int (zI a) :: st) := by
  obtain ⟨p, e, R, s, m, args, below, meth, c, A, Q⟩ := E
  obtain ⟨hx, hb, hml, hown, hts, hK, hA, hX, hR1, hR2, hR3, hR4⟩ := g
  intro H locs ls hP hD hS hl
  exact lv_if_gt hx hb hd ht (fun h => kt ((zI_lt zR_0 ha).mp (by rw [zI_0]; exact h)) H locs ls hP hD hS hl) (fun h => kf (fun q => h (by have h9 := (zI_lt zR_0 ha).mpr q; rw [zI_0] at h9; exact h9)) H locs ls hP hD hS hl)
theorem z_if_le {pc : Nat} {a off : Int} (tgt : Nat) (g : kG M E nL d mc ms cc own) (hd : decode cc pc = .ok (.ifCond .le off, 3)) (ht : (pc : Int) + off = (tgt : Int)) (ha : zR a) (kt : a ≤ 0 → kV M E nL cells slots ws lv tgt st) (kf : ¬ a ≤ 0 → kV M E nL cells slots ws lv (pc + 3) st) : kV M E nL cells slots ws lv pc (.int (zI a) :: st) := by
  obtain ⟨p, e, R, s, m, args, below, meth, c, A, Q⟩ := E
  obtain ⟨hx, hb, hml, hown, hts, hK, hA, hX, hR1, hR2, hR3, hR4⟩ := g
  intro H locs ls hP hD hS hl
  exact lv_if_le hx hb hd ht (fun h => kt ((zI_le ha zR_0).mp (by rw [zI_0]; exact h)) H locs ls hP hD hS hl) (fun h => kf (fun q => h (by have h9 := (zI_le ha zR_0).mpr q; rw [zI_0] at h9; exact h9)) H locs ls hP hD hS hl)
theorem z_goto {pc : Nat} {off : Int} (tgt : Nat) (g : kG M E nL d mc ms cc own) (hd : decode cc pc = .ok (.goto off, 3)) (ht : (pc : Int) + off = (tgt : Int)) (k : kV M E nL cells slots ws lv tgt st) : kV M E nL cells slots ws lv pc st := by
  obtain ⟨p, e, R, s, m, args, below, meth, c, A, Q⟩ := E
  obtain ⟨hx, hb, hml, hown, hts, hK, hA, hX, hR1, hR2, hR3, hR4⟩ := g
  intro H locs ls hP hD hS hl
  exact lv_goto hx hb hd ht (k H locs ls hP hD hS hl)
theorem z_tabOut {pc len : Nat} {dflt lo hi a : Int} {offs : Array Int} (tgt : Nat) (g : kG M E nL d mc ms cc own) (hd : decode cc pc = .ok (.tableswitch dflt lo hi offs, len)) (ha : zR a) (h : a < lo ∨ hi < a) (ht : (pc : Int) + dflt = (tgt : Int)) (k : kV M E nL cells slots ws lv tgt st) : kV M E nL cells slots ws lv pc (.int (zI a) :: st) := by
  obtain ⟨p, e, R, s, m, args, below, meth, c, A, Q⟩ := E
  obtain ⟨hx, hb, hml, hown, hts, hK, hA, hX, hR1, hR2, hR3, hR4⟩ := g
  intro H locs ls hP hD hS hl
  exact lv_tableOut hx hb hd (by rw [zI_toInt ha]; exact h) ht (k H locs ls hP hD hS hl)
theorem z_tabIn {pc len : Nat} {dflt lo hi a off : Int} {offs : Array Int} (tgt : Nat) (g : kG M E nL d mc ms cc own) (hd : decode cc pc = .ok (.tableswitch dflt lo hi offs, len)) (ha : zR a) (h1 : ¬ a < lo) (h2 : ¬ hi < a) (ho : offs[(a - lo).toNat]? = some off) (ht : (pc : Int) + off = (tgt : Int)) (k : kV M E nL cells slots ws lv tgt st) : kV M E nL cells slots ws lv pc (.int (zI a) :: st) := by
  obtain ⟨p, e, R, s, m, args, below, meth, c, A, Q⟩ := E
  obtain ⟨hx, hb, hml, hown, hts, hK, hA, hX, hR1, hR2, hR3, hR4⟩ := g
  intro H locs ls hP hD hS hl
  exact lv_tableIn hx hb hd (by rw [zI_toInt ha]; exact h1) (by rw [zI_toInt ha]; exact h2) (by rw [zI_toInt ha]; exact ho) ht (k H locs ls hP hD hS hl)
theorem z_nn {pc x : Nat} {off : Int} (tgt : Nat) (g : kG M E nL d mc ms cc own) (hd : decode cc pc = .ok (.ifnonnull off, 3)) (ht : (pc : Int) + off = (tgt : Int)) (k : kV M E nL cells slots ws lv tgt st) : kV M E nL cells slots ws lv pc (.ref x :: st) := by
  obtain ⟨p, e, R, s, m, args, below, meth, c, A, Q⟩ := E
  obtain ⟨hx, hb, hml, hown, hts, hK, hA, hX, hR1, hR2, hR3, hR4⟩ := g
  intro H locs ls hP hD hS hl
  exact lv_ifnonnull hx hb hd ht (k H locs ls hP hD hS hl)
theorem z_nnN {pc : Nat} {off : Int} (g : kG M E nL d mc ms cc own) (hd : decode cc pc = .ok (.ifnonnull off, 3)) (k : kV M E nL cells slots ws lv (pc + 3) st) : kV M E nL cells slots ws lv pc (.null :: st) := by
  obtain ⟨p, e, R, s, m, args, below, meth, c, A, Q⟩ := E
  obtain ⟨hx, hb, hml, hown, hts, hK, hA, hX, hR1, hR2, hR3, hR4⟩ := g
  intro H locs ls hP hD hS hl
  exact lv_ifnonnullN hx hb hd (k H locs ls hP hD hS hl)
/-- the world's cells in another order, or fewer -/
theorem z_sub {pc : Nat} (ws' : va_W) (is : List Nat) (hn : va_nd is = true) (hs : is.map (fun i => ws[i]?) = ws'.map some) (k : kV M E nL cells slots ws' lv pc st) : kV M E nL cells slots ws lv pc st := by
  obtain ⟨p, e, R, s, m, args, below, meth, c, A, Q⟩ := E
  intro H locs ls hP hD hS hl
  refine k H locs ls (fun j q hj => ?_) (hD.sub is hn hs) hS hl
  have h1 : (is.map (fun i => ws[i]?))[j]? = some (some q) := by rw [hs, List.getElem?_map, hj]; rfl
  rw [List.getElem?_map] at h1
  cases hi : is[j]? with
  | none => rw [hi] at h1; cases h1
  | some i => rw [hi] at h1; exact hP i q (Option.some.inj h1)
/-- locals: fewer, in another order -/
theorem z_lv {pc : Nat} (lv' : List (Nat × Value)) (is : List Nat) (hs : lv_pick lv is = lv') (k : kV M E nL cells slots ws lv' pc st) : kV M E nL cells slots ws lv pc st := by
  obtain ⟨p, e, R, s, m, args, below, meth, c, A, Q⟩ := E
  intro H locs ls hP hD hS hl
  exact k H locs ls hP hD hS (lv_sub hl is hs)
theorem z_widen {pc : Nat} {c2 s2 : Nat} (h1 : cells ≤ c2) (h2 : slots ≤ s2) (k : kV M E nL c2 s2 ws lv pc st) : kV M E nL cells slots ws lv pc st := by
  obtain ⟨p, e, R, s, m, args, below, meth, c, A, Q⟩ := E
  intro H locs ls hP hD hS hl
  exact W.widen h1 h2 (k H locs ls hP hD hS hl)
theorem arrV_cong {cA : ClassId} {n : Nat} {f g : Nat → Value} (h : ∀ j, j < n → f j = g j) : arrV cA n f = arrV cA n g := by
  unfold arrV
  congr 1
  apply Array.ext
  · simp
  · intro i h1 h2
    simp only [Array.getElem_ofFn]
    exact h i (by simpa using h1)
/-- a cell may be told in other words: a row is what it holds in its length -/
theorem va_P_cong {D : va_G} {ws ws' : va_W} {H : Heap} (h : ∀ (k : Nat) (q' : Nat × va_E), ws'[k]? = some q' → ∃ q, ws[k]? = some q ∧ (va_at D vwCl q H → va_at D vwCl q' H)) (hP : va_P D vwCl ws H) : va_P D vwCl ws' H := fun k q' hk => by
  obtain ⟨q, h1, h2⟩ := h k q' hk
  exact h2 (hP k q h1)
theorem z_fun {pc a n : Nat} {f : Nat → Int} (q0 : Nat) (f' : Nat → Int) (ws' : va_W) (he : ws[q0]? = some (cI M a n f)) (hf : ∀ j, j < n → f j = f' j) (hw : ws.set q0 (cI M a n f') = ws') (k : kV M E nL cells slots ws' lv pc st) : kV M E nL cells slots ws lv pc st := by
  obtain ⟨p, e, R, s, m, args, below, meth, c, A, Q⟩ := E
  intro H locs ls hP hD hS hl
  subst hw
  refine k H locs ls (hP.set hD he ?_ (fun q _ => rfl)) (hD.set he) hS hl
  have h1 := hP q0 _ he
  show H[a]? = some (vp_cell _ _)
  refine Eq.trans h1 (congrArg some ?_)
  exact arrV_cong (fun j hj => congrArg (fun z => Value.int (zI z)) (hf j hj))
theorem z_funZ {pc a n : Nat} {f : Nat → Int} (q0 : Nat) (f' : Nat → Int) (ws' : va_W) (he : ws[q0]? = some (cZ M a n f)) (hf : ∀ j, j < n → f j = f' j) (hw : ws.set q0 (cZ M a n f') = ws') (k : kV M E nL cells slots ws' lv pc st) : kV M E nL cells slots ws lv pc st := by
  obtain ⟨p, e, R, s, m, args, below, meth, c, A, Q⟩ := E
  intro H locs ls hP hD hS hl
  subst hw
  refine k H locs ls (hP.set hD he ?_ (fun q _ => rfl)) (hD.set he) hS hl
  have h1 := hP q0 _ he
  show H[a]? = some (vp_cell _ _)
  refine Eq.trans h1 (congrArg some ?_)
  exact arrV_cong (fun j hj => congrArg (fun z => Value.int (zI z)) (hf j hj))
/-- a field's link: class ci of the list, field k, read by own at index -/
def kFL (own : String) (index ci k : Nat) : Prop := ∃ (C : String) (T : u_T) (N : Nat), vwCl[ci]? = some (C, T, N) ∧ k < N ∧ Cond.fieldLink own index (T k).1 (T k).2.1 (T k).2.2.1 ∈ wsA ∧ ∀ w ∈ u_ws C T N, w ∈ wsA
/-- and written: its type, and whether it is final -/
def kFP (own : String) (index ci k : Nat) (ty : FieldType) (fin : Bool) : Prop := ∃ (C : String) (T : u_T) (N : Nat) (ty0 : Nat → FieldType), vwCl[ci]? = some (C, T, N) ∧ k < N ∧ Cond.fieldLink own index (T k).1 (T k).2.1 (T k).2.2.1 ∈ wsA ∧ (∀ w ∈ u_ws C T N, w ∈ wsA) ∧ (∀ k, k < N → parseFieldDescriptor (T k).2.2.1 = some (ty0 k)) ∧ (∀ a, a < N → ∀ b, b < N → a ≠ b → (T a).2.1 ≠ (T b).2.1) ∧ (T k).2.2.2 = fin ∧ parseFieldDescriptor (T k).2.2.1 = some ty ∧ (fin = true → (T k).1 = own)
theorem z_get {pc index ci k h : Nat} {fs : List Value} {v : Value} (q0 : Nat) (g : kG M E nL d mc ms cc own) (hf : kFL own index ci k) (hd : decode cc pc = .ok (.getfield index, 3)) (he : ws[q0]? = some (cO ci h fs)) (hv : fs[k]? = some v) (kk : kV M E nL cells slots ws lv (pc + 3) (v :: st)) : kV M E nL cells slots ws lv pc (.ref h :: st) := by
  obtain ⟨p, e, R, s, m, args, below, meth, c, A, Q⟩ := E
  obtain ⟨hx, hb, hml, hown, hts, hK, hA, hX, hR1, hR2, hR3, hR4⟩ := g
  intro H locs ls hP hD hS hl
  obtain ⟨C, T, N, hc, hk, hlink, hin⟩ := hf
  exact va_get hx hb hts hin hown hK hP q0 he hc k hk (hts _ hlink) (fun _ h9 => h9) hv hd (kk H locs ls hP hD hS hl)
theorem z_put {pc index ci k h : Nat} {fs : List Value} {v : Value} {ty : FieldType} (q0 : Nat) (ws' : va_W) (g : kG M E nL d mc ms cc own) (hf : kFP own index ci k ty false) (hd : decode cc pc = .ok (.putfield index, 3)) (he : ws[q0]? = some (cO ci h fs)) (hn : narrow ty v = v) (hfit : fits ty v = true) (hl0 : k < fs.length) (hw : ws.set q0 (cO ci h (fs.set k v)) = ws') (kk : kV M E nL cells slots ws' lv (pc + 3) st) : kV M E nL cells slots ws lv pc (v :: .ref h :: st) := by
  obtain ⟨p, e, R, s, m, args, below, meth, c, A, Q⟩ := E
  obtain ⟨hx, hb, hml, hown, hts, hK, hA, hX, hR1, hR2, hR3, hR4⟩ := g
  intro H locs ls hP hD hS hl
  obtain ⟨C, T, N, ty0, hc, hk, hlink, hin, hty, hnm, hfin, hdesc, -⟩ := hf
  subst hw
  exact va_put hx hb hts hin ty0 hty hnm hown hK hP hD hS q0 he hc k hk (hts _ hlink) (fun _ h9 => h9) hfin hdesc hn hfit hl0 hd (fun H1 locs1 hP1 hD1 hS1 => kk H1 locs1 ls hP1 hD1 hS1 hl)
theorem z_putF {pc index ci k h : Nat} {fs : List Value} {v : Value} {ty : FieldType} (q0 : Nat) (ws' : va_W) (g : kG M E nL d mc ms cc own) (hi : kN E "<init>") (hf : kFP own index ci k ty true) (hd : decode cc pc = .ok (.putfield index, 3)) (he : ws[q0]? = some (cO ci h fs)) (hn : narrow ty v = v) (hfit : fits ty v = true) (hl0 : k < fs.length) (hw : ws.set q0 (cO ci h (fs.set k v)) = ws') (kk : kV M E nL cells slots ws' lv (pc + 3) st) : kV M E nL cells slots ws lv pc (v :: .ref h :: st) := by
  obtain ⟨p, e, R, s, m, args, below, meth, c, A, Q⟩ := E
  obtain ⟨hx, hb, hml, hown, hts, hK, hA, hX, hR1, hR2, hR3, hR4⟩ := g
  intro H locs ls hP hD hS hl
  obtain ⟨C, T, N, ty0, hc, hk, hlink, hin, hty, hnm, hfin, hdesc, hdecl⟩ := hf
  subst hw
  exact va_putF hx hb hts hin ty0 hty hnm hown hK hP hD hS q0 he hc k hk (hts _ hlink) (fun _ h9 => h9) hfin hi (hdecl rfl) hdesc hn hfit hl0 hd (fun H1 locs1 hP1 hD1 hS1 => kk H1 locs1 ls hP1 hD1 hS1 hl)
theorem z_iald {pc a n : Nat} {f : Nat → Int} {z : Int} (q0 k : Nat) (g : kG M E nL d mc ms cc own) (hd : decode cc pc = .ok (.iaload, 1)) (he : ws[q0]? = some (cI M a n f)) (hz : z = (k : Int)) (hk : k < n) (hn : n < 2147483648) (kk : kV M E nL cells slots ws lv (pc + 1) (.int (zI (f k)) :: st)) : kV M E nL cells slots ws lv pc (.int (zI z) :: .ref a :: st) := by
  obtain ⟨p, e, R, s, m, args, below, meth, c, A, Q⟩ := E
  obtain ⟨hx, hb, hml, hown, hts, hK, hA, hX, hR1, hR2, hR3, hR4⟩ := g
  intro H locs ls hP hD hS hl
  refine va_iald hx hb hK hP q0 0 he rfl (zI_in hz hk hn) hd ?_
  rw [zI_clamp hz (by omega)]
  exact kk H locs ls hP hD hS hl
theorem z_zald {pc a n : Nat} {f : Nat → Int} {z : Int} (q0 k : Nat) (g : kG M E nL d mc ms cc own) (hd : decode cc pc = .ok (.baload, 1)) (he : ws[q0]? = some (cZ M a n f)) (hz : z = (k : Int)) (hk : k < n) (hn : n < 2147483648) (kk : kV M E nL cells slots ws lv (pc + 1) (.int (zI (f k)) :: st)) : kV M E nL cells slots ws lv pc (.int (zI z) :: .ref a :: st) := by
  obtain ⟨p, e, R, s, m, args, below, meth, c, A, Q⟩ := E
  obtain ⟨hx, hb, hml, hown, hts, hK, hA, hX, hR1, hR2, hR3, hR4⟩ := g
  intro H locs ls hP hD hS hl
  refine va_zald hx hb hK hP q0 1 he rfl (zI_in hz hk hn) hd ?_
  rw [zI_clamp hz (by omega)]
  exact kk H locs ls hP hD hS hl
theorem z_iast {pc a n : Nat} {f : Nat → Int} {z x : Int} (q0 k : Nat) (ws' : va_W) (g : kG M E nL d mc ms cc own) (hd : decode cc pc = .ok (.iastore, 1)) (he : ws[q0]? = some (cI M a n f)) (hz : z = (k : Int)) (hk : k < n) (hn : n < 2147483648) (hw : ws.set q0 (cI M a n (zU f k x)) = ws') (kk : kV M E nL cells slots ws' lv (pc + 1) st) : kV M E nL cells slots ws lv pc (.int (zI x) :: .int (zI z) :: .ref a :: st) := by
  obtain ⟨p, e, R, s, m, args, below, meth, c, A, Q⟩ := E
  obtain ⟨hx, hb, hml, hown, hts, hK, hA, hX, hR1, hR2, hR3, hR4⟩ := g
  intro H locs ls hP hD hS hl
  subst hw
  refine va_iast hx hb hK hP hD hS q0 0 he rfl (zI_in hz hk hn) hd (fun H1 locs1 hP1 hD1 hS1 => ?_)
  rw [zI_clamp hz (by omega), zU_zI] at hP1 hD1
  exact kk H1 locs1 ls hP1 hD1 hS1 hl
theorem zI_nar {x : Int} (h : x = 0 ∨ x = 1) : vp_nar .boolean (zI x) = zI x := by
  rcases h with rfl | rfl <;> decide +kernel
theorem z_zast {pc a n : Nat} {f : Nat → Int} {z x : Int} (q0 k : Nat) (ws' : va_W) (g : kG M E nL d mc ms cc own) (hd : decode cc pc = .ok (.bastore, 1)) (he : ws[q0]? = some (cZ M a n f)) (hz : z = (k : Int)) (hk : k < n) (hn : n < 2147483648) (h01 : x = 0 ∨ x = 1) (hw : ws.set q0 (cZ M a n (zU f k x)) = ws') (kk : kV M E nL cells slots ws' lv (pc + 1) st) : kV M E nL cells slots ws lv pc (.int (zI x) :: .int (zI z) :: .ref a :: st) := by
  obtain ⟨p, e, R, s, m, args, below, meth, c, A, Q⟩ := E
  obtain ⟨hx, hb, hml, hown, hts, hK, hA, hX, hR1, hR2, hR3, hR4⟩ := g
  intro H locs ls hP hD hS hl
  subst hw
  refine va_zast hx hb hK hP hD hS q0 1 he rfl (zI_in hz hk hn) hd (fun H1 locs1 hP1 hD1 hS1 => ?_)
  rw [zI_clamp hz (by omega), zI_nar h01, zU_zI] at hP1 hD1
  exact kk H1 locs1 ls hP1 hD1 hS1 hl
theorem z_tald {pc a n : Nat} {f : Nat → Option Nat} {z : Int} (q0 k : Nat) (g : kG M E nL d mc ms cc own) (hd : decode cc pc = .ok (.aaload, 1)) (he : ws[q0]? = some (cT M a n f)) (hz : z = (k : Int)) (hk : k < n) (hn : n < 2147483648) (kk : kV M E nL cells slots ws lv (pc + 1) (va_rf (f k) :: st)) : kV M E nL cells slots ws lv pc (.int (zI z) :: .ref a :: st) := by
  obtain ⟨p, e, R, s, m, args, below, meth, c, A, Q⟩ := E
  obtain ⟨hx, hb, hml, hown, hts, hK, hA, hX, hR1, hR2, hR3, hR4⟩ := g
  intro H locs ls hP hD hS hl
  refine va_aldq hx hb hK hP q0 2 he rfl (zI_in hz hk hn) hd ?_
  rw [zI_clamp hz (by omega)]
  exact kk H locs ls hP hD hS hl
theorem z_gald {pc a n : Nat} {f : Nat → Option Nat} {z : Int} (q0 k : Nat) (g : kG M E nL d mc ms cc own) (hd : decode cc pc = .ok (.aaload, 1)) (he : ws[q0]? = some (cG M a n f)) (hz : z = (k : Int)) (hk : k < n) (hn : n < 2147483648) (kk : kV M E nL cells slots ws lv (pc + 1) (va_rf (f k) :: st)) : kV M E nL cells slots ws lv pc (.int (zI z) :: .ref a :: st) := by
  obtain ⟨p, e, R, s, m, args, below, meth, c, A, Q⟩ := E
  obtain ⟨hx, hb, hml, hown, hts, hK, hA, hX, hR1, hR2, hR3, hR4⟩ := g
  intro H locs ls hP hD hS hl
  have hin : vp_in (zI z) n := zI_in hz hk hn
  have hlt : (zI z).toNatClampNeg < n := Nat.not_le.mp fun q => hin (Or.inr q)
  refine W.aald (v := va_rf (f (zI z).toNatClampNeg)) (ty := .array .int) hx hb (hP q0 _ he) ((hK.2 3 _ rfl).1 n (fun j => va_rf (f j))) rfl (fun q => by cases q) (by show ¬ (zI z < 0 ∨ (arrV _ _ _).slots.size ≤ _); rw [arrV_size]; exact hin) (by show (arrV _ _ _).slots[_]? = _; rw [arrV_read _ _ hlt]) rfl rfl hd ?_
  rw [zI_clamp hz (by omega)]
  exact kk H locs ls hP hD hS hl
theorem z_tast {pc a n v : Nat} {f : Nat → Option Nat} {vs : List Value} {z : Int} (q0 qk k : Nat) (ws' : va_W) (g : kG M E nL d mc ms cc own) (hd : decode cc pc = .ok (.aastore, 1)) (he : ws[q0]? = some (cT M a n f)) (hv : ws[qk]? = some (cO 9 v vs)) (hz : z = (k : Int)) (hk : k < n) (hn : n < 2147483648) (hw : ws.set q0 (cT M a n (va_up f k (some v))) = ws') (kk : kV M E nL cells slots ws' lv (pc + 1) st) : kV M E nL cells slots ws lv pc (.ref v :: .int (zI z) :: .ref a :: st) := by
  obtain ⟨p, e, R, s, m, args, below, meth, c, A, Q⟩ := E
  obtain ⟨hx, hb, hml, hown, hts, hK, hA, hX, hR1, hR2, hR3, hR4⟩ := g
  intro H locs ls hP hD hS hl
  subst hw
  refine va_astq (r := (RX9, TX9, 10)) hx hb hK hP hD hS q0 2 qk 9 he rfl hv rfl (zI_in hz hk hn) hd (fun H1 locs1 hP1 hD1 hS1 => ?_)
  rw [zI_clamp hz (by omega)] at hP1 hD1
  exact kk H1 locs1 ls hP1 hD1 hS1 hl
theorem zI_nneg {n : Nat} (h : n < 2147483648) : ¬ zI (n : Int) < 0 := by
  rw [zI_nat]
  exact nI_pos (by omega)
theorem z_newaI {pc n : Nat} {z : Int} (g : kG M E nL d mc ms cc own) (hd : decode cc pc = .ok (.newarray .int, 2)) (harr : Cond.arrayClass .int ∈ wsA) (hz : z = (n : Int)) (hn : n ≤ 100000) (hc : cells + 1 ≤ mc) (hs : slots + n ≤ ms) (kk : ∀ q : Nat, kV M E nL (cells + 1) (slots + n) (ws ++ [cI M q n (fun _ => 0)]) lv (pc + 2) (.ref q :: st)) : kV M E nL cells slots ws lv pc (.int (zI z) :: st) := by
  obtain ⟨p, e, R, s, m, args, below, meth, c, A, Q⟩ := E
  obtain ⟨hx, hb, hml, hown, hts, hK, hA, hX, hR1, hR2, hR3, hR4⟩ := g
  intro H locs ls hP hD hS hl
  subst hz
  refine va_newa (atype := .int) (ty := .int) (a0 := (n, .inl (fun _ => zI 0))) hx hb (hts _ harr) rfl hK hP hD hS hA (fun cA => by rw [vp_cell_i, zI_0]; rfl) (zI_nneg (by omega)) (zI_clamp rfl (by omega)) (by show n * 4 ≤ 536870912; omega) (by omega) (by omega) hd (fun q cA H1 hK1 hP1 hD1 hS1 => ?_)
  have e1 := (hK1.2 4 _ rfl).2
  have e2 := (hK.2 0 _ rfl).2
  have e3 : some cA = some (M.2.1 0) := (va_nm_int e1).symm.trans (va_nm_int e2)
  cases e3
  exact kk q H1 locs ls hP1 hD1 hS1 hl
theorem z_newaZ {pc n : Nat} {z : Int} (g : kG M E nL d mc ms cc own) (hd : decode cc pc = .ok (.newarray .boolean, 2)) (harr : Cond.arrayClass .boolean ∈ wsA) (hz : z = (n : Int)) (hn : n ≤ 100000) (hc : cells + 1 ≤ mc) (hs : slots + n ≤ ms) (kk : ∀ q : Nat, kV M E nL (cells + 1) (slots + n) (ws ++ [cZ M q n (fun _ => 0)]) lv (pc + 2) (.ref q :: st)) : kV M E nL cells slots ws lv pc (.int (zI z) :: st) := by
  obtain ⟨p, e, R, s, m, args, below, meth, c, A, Q⟩ := E
  obtain ⟨hx, hb, hml, hown, hts, hK, hA, hX, hR1, hR2, hR3, hR4⟩ := g
  intro H locs ls hP hD hS hl
  subst hz
  refine va_newa (atype := .boolean) (ty := .boolean) (a0 := (n, .inl (fun _ => zI 0))) hx hb (hts _ harr) rfl hK hP hD hS hA (fun cA => by rw [vp_cell_i, zI_0]; rfl) (zI_nneg (by omega)) (zI_clamp rfl (by omega)) (by show n * 1 ≤ 536870912; omega) (by omega) (by omega) hd (fun q cA H1 hK1 hP1 hD1 hS1 => ?_)
  have e1 := (hK1.2 4 _ rfl).2
  have e2 := (hK.2 1 _ rfl).2
  have e3 : some cA = some (M.2.1 1) := (va_nm_boolean e1).symm.trans (va_nm_boolean e2)
  cases e3
  exact kk q H1 locs ls hP1 hD1 hS1 hl
theorem z_newaT {pc n index : Nat} {z : Int} (g : kG M E nL d mc ms cc own) (hd : decode cc pc = .ok (.anewarray index, 3)) (hcl : Cond.classLink own index RX9 ∈ wsA) (hz : z = (n : Int)) (hn : n ≤ 100000) (hc : cells + 1 ≤ mc) (hs : slots + n ≤ ms) (kk : ∀ q : Nat, kV M E nL (cells + 1) (slots + n) (ws ++ [cT M q n (fun _ => none)]) lv (pc + 3) (.ref q :: st)) : kV M E nL cells slots ws lv pc (.int (zI z) :: st) := by
  obtain ⟨p, e, R, s, m, args, below, meth, c, A, Q⟩ := E
  obtain ⟨hx, hb, hml, hown, hts, hK, hA, hX, hR1, hR2, hR3, hR4⟩ := g
  intro H locs ls hP hD hS hl
  subst hz
  refine va_newq (C := RX9) hx hb hown (hts _ hcl) hX.2.2.2.2.2.2.2.2.2.1 hK hP hD hS hA (zI_nneg (by omega)) (zI_clamp rfl (by omega)) (by omega) (by omega) (by omega) hd (fun q cA H1 hK1 hP1 hD1 hS1 => ?_)
  obtain ⟨-, -, -, -, -, e1⟩ := (hK1.2 4 _ rfl).2
  obtain ⟨-, -, -, -, -, e2⟩ := (hK.2 2 _ rfl).2
  have e3 : some cA = some (M.2.1 2) := e1.symm.trans e2
  cases e3
  exact kk q H1 locs ls hP1 hD1 hS1 hl
/-- a class of the list that may be made -/
def kNW (own : String) (index ci : Nat) (fs : List Value) : Prop := ∃ (C : String) (T : u_T) (N : Nat) (ty : Nat → FieldType), vwCl[ci]? = some (C, T, N) ∧ (∀ w ∈ u_ws C T N, w ∈ wsA) ∧ (∀ k, k < N → parseFieldDescriptor (T k).2.2.1 = some (ty k)) ∧ Cond.classLink own index C ∈ wsA ∧ Cond.instantiable C N ∈ wsA ∧ Cond.initialized C ∈ wsA ∧ (∀ j, j < N → defaultValue (ty j) = vp_V fs j) ∧ N = fs.length
theorem z_new {pc index ci : Nat} {fs : List Value} (g : kG M E nL d mc ms cc own) (hf : kNW own index ci fs) (hd : decode cc pc = .ok (.new index, 3)) (hc : cells + 1 ≤ mc) (hs : slots + fs.length ≤ ms) (kk : ∀ q : Nat, kV M E nL (cells + 1) (slots + fs.length) (ws ++ [cO ci q fs]) lv (pc + 3) (.ref q :: st)) : kV M E nL cells slots ws lv pc st := by
  obtain ⟨p, e, R, s, m, args, below, meth, c, A, Q⟩ := E
  obtain ⟨hx, hb, hml, hown, hts, hK, hA, hX, hR1, hR2, hR3, hR4⟩ := g
  intro H locs ls hP hD hS hl
  obtain ⟨C, T, N, ty, hcl, hin, hty, h1, h2, h3, h4, h5⟩ := hf
  subst h5
  exact va_new hx hb hts hin ty hty hown (hts _ h1) (hts _ h2) (hts _ h3) hK hP hD hS hA hcl h4 (by omega) (by omega) hd (fun q H1 hP1 hD1 hS1 => kk q H1 locs ls hP1 hD1 hS1 hl)
theorem z_obj {pc index a : Nat} (g : kG M E nL d mc ms cc own) (hd : decode cc pc = .ok (.invokespecial index, 3)) (hlk : Cond.methodLink own index objectInit ∈ wsA) (hin : Cond.instanceMethod objectInit ∈ wsA) (hco : Cond.code objectInit ⟨#[0xb1]⟩ 1 none ∈ wsA) (h1 : 1 ≤ d) (hst : (st.map fun v => v.category).sum ≤ 8) (kk : kV M E nL cells slots ws lv (pc + 3) st) : kV M E nL cells slots ws lv pc (.ref a :: st) := by
  obtain ⟨p, e, R, s, m, args, below, meth, c, A, Q⟩ := E
  obtain ⟨hx, hb, hml, hown, hts, hK, hA, hX, hR1, hR2, hR3, hR4⟩ := g
  intro H locs ls hP hD hS hl
  refine W.objInit hx hb hown (hts _ hlk) (hts _ hin) (hts _ hco) rfl (by rw [hml]; exact hl.1) rfl hd (by omega) ?_ ?_
  · have := lv_room (m := m) (pc := pc) (ls := ls) (rest := st) hst
    have h9 : 2 * (F0 m pc ls (.ref a :: st)).monitorRoom + (st.map fun v => v.category).sum ≤ 8 := lv_room hst
    omega
  · exact W.eq (g2 := F0 m (pc + 3) ls st) rfl (kk H locs ls hP hD hS hl)
theorem z_min {pc index : Nat} {a b : Int} (g : kG M E nL d mc ms cc own) (hd : decode cc pc = .ok (.invokestatic index, 3)) (hlk : Cond.methodLink own index Lib.Math.min.name ∈ wsA) (hst : Cond.static Lib.Math.min.name ∈ wsA) (hin : Cond.initialized "java/lang/Math" ∈ wsA) (hco : Cond.code Lib.Math.min.name Lib.Math.min.code 2 (some .int) ∈ wsA) (h1 : 1 ≤ d) (hs8 : (st.map fun v => v.category).sum ≤ 8) (hc : cells ≤ mc) (hs : slots ≤ ms) (ha : zR a) (hb2 : zR b) (kk : kV M E nL cells slots ws lv (pc + 3) (.int (zI (if b < a then b else a)) :: st)) : kV M E nL cells slots ws lv pc (.int (zI b) :: .int (zI a) :: st) := by
  obtain ⟨p, e, R, s, m, args, below, meth, c, A, Q⟩ := E
  obtain ⟨hx, hb, hml, hown, hts, hK, hA, hX, hR1, hR2, hR3, hR4⟩ := g
  intro H locs ls hP hD hS hl
  refine va_mmin hx hb (by rw [hml]; exact hl.1.symm) hown (hts _ hlk) (hts _ hst) (hts _ hin) (hts _ hco) (by omega) (by omega) (by omega) (by omega) hd ?_
  have e : (if zI b < zI a then zI b else zI a) = zI (if b < a then b else a) := by
    by_cases h : b < a
    · rw [if_pos h, if_pos ((zI_lt hb2 ha).mpr h)]
    · rw [if_neg h, if_neg (fun q => h ((zI_lt hb2 ha).mp q))]
  rw [e]
  exact kk H locs ls hP hD hS hl
theorem z_max {pc index : Nat} {a b : Int} (g : kG M E nL d mc ms cc own) (hd : decode cc pc = .ok (.invokestatic index, 3)) (hlk : Cond.methodLink own index Lib.Math.max.name ∈ wsA) (hst : Cond.static Lib.Math.max.name ∈ wsA) (hin : Cond.initialized "java/lang/Math" ∈ wsA) (hco : Cond.code Lib.Math.max.name Lib.Math.max.code 2 (some .int) ∈ wsA) (h1 : 1 ≤ d) (hs8 : (st.map fun v => v.category).sum ≤ 8) (hc : cells ≤ mc) (hs : slots ≤ ms) (ha : zR a) (hb2 : zR b) (kk : kV M E nL cells slots ws lv (pc + 3) (.int (zI (if a < b then b else a)) :: st)) : kV M E nL cells slots ws lv pc (.int (zI b) :: .int (zI a) :: st) := by
  obtain ⟨p, e, R, s, m, args, below, meth, c, A, Q⟩ := E
  obtain ⟨hx, hb, hml, hown, hts, hK, hA, hX, hR1, hR2, hR3, hR4⟩ := g
  intro H locs ls hP hD hS hl
  refine va_mmax hx hb (by rw [hml]; exact hl.1.symm) hown (hts _ hlk) (hts _ hst) (hts _ hin) (hts _ hco) (by omega) (by omega) (by omega) (by omega) hd ?_
  have e : (if zI a < zI b then zI b else zI a) = zI (if a < b then b else a) := by
    by_cases h : a < b
    · rw [if_pos h, if_pos ((zI_lt ha hb2).mpr h)]
    · rw [if_neg h, if_neg (fun q => h ((zI_lt ha hb2).mp q))]
  rw [e]
  exact kk H locs ls hP hD hS hl
/-- arraycopy of a whole row of ints onto one of the same length -/
theorem z_copy {pc index a0 a n : Nat} {f f2 : Nat → Int} {z : Int} (q0 q1 : Nat) (ws' : va_W) (g : kG M E nL d mc ms cc own) (hd : decode cc pc = .ok (.invokestatic index, 3)) (hlk : Cond.methodLink own index arraycopyName ∈ wsA) (hna : Cond.native arraycopyName ∈ wsA) (hsta : Cond.static arraycopyName ∈ wsA) (hin : Cond.initialized "java/lang/System" ∈ wsA) (h1 : 1 ≤ d) (hs8 : (st.map fun v => v.category).sum ≤ 8) (he0 : ws[q0]? = some (cI M a0 n f)) (he1 : ws[q1]? = some (cI M a n f2)) (hz : z = (n : Int)) (hn : n < 2147483648) (hw : ws.set q1 (cI M a n f) = ws') (kk : kV M E nL cells slots ws' lv (pc + 3) st) : kV M E nL cells slots ws lv pc (.int (zI z) :: .int (zI 0) :: .ref a :: .int (zI 0) :: .ref a0 :: st) := by
  obtain ⟨p, e, R, s, m, args, below, meth, c, A, Q⟩ := E
  obtain ⟨hx, hb, hml, hown, hts, hK, hA, hX, hR1, hR2, hR3, hR4⟩ := g
  intro H locs ls hP hD hS hl
  subst hw
  have hc0 : (zI 0).toNatClampNeg = 0 := zI_clamp (k := 0) rfl (by omega)
  have hcz : (zI z).toNatClampNeg = n := zI_clamp hz hn
  have hnat : nativeFrameWords "java/lang/System" "arraycopy" 5 ≤ 16 := by decide +kernel
  refine va_copyi hx hb (by rw [hml]; exact hl.1.symm) hown (hts _ hlk) (hts _ hna) (hts _ hsta) (hts _ hin) hK hP hD hS q0 q1 0 0 he0 he1 rfl rfl rfl (by rw [zI_0]; decide) (by rw [zI_0]; decide) (by rw [hz]; exact zI_nneg hn) (by rw [hc0, hcz]; omega) (by rw [hc0, hcz]; omega) (fun i _ => rfl) (by omega) (by omega) hd (fun H1 locs1 hP1 hD1 hS1 => ?_)
  rw [hc0, hcz] at hP1 hD1
  have hset : va_P M.1 vwCl (ws.set q1 (cI M a n f)) H1 := by
    refine va_P_cong (fun k q' hk => ?_) hP1
    have hlt := (List.getElem?_eq_some_iff.mp he1).1
    by_cases hkq : k = q1
    · subst hkq
      rw [List.getElem?_set_self hlt] at hk
      cases hk
      refine ⟨_, List.getElem?_set_self hlt, fun h => ?_⟩
      show H1[a]? = some (vp_cell _ _)
      refine Eq.trans h (congrArg some ?_)
      refine arrV_cong (f := fun j => Value.int (va_cpy (fun j => zI (f j)) (fun j => zI (f2 j)) 0 0 n j)) (g := fun j => Value.int (zI (f j))) (fun j hj => ?_)
      have hj : j < n := hj
      show Value.int (va_cpy (fun j => zI (f j)) (fun j => zI (f2 j)) 0 0 n j) = Value.int (zI (f j))
      rw [pk_cpy_in (Nat.zero_le j) (by omega)]
      simp
    · rw [List.getElem?_set_ne (Ne.symm hkq)] at hk
      exact ⟨q', by rw [List.getElem?_set_ne (Ne.symm hkq)]; exact hk, id⟩
  exact kk H1 locs1 ls hset (hD.set he1) hS1 hl

theorem va_P.subm {D : va_G} {cl : List vw_C} {ws ws' : va_W} {H : Heap} (h : va_P D cl ws H) (is : List Nat) (hs : is.map (fun i => ws[i]?) = ws'.map some) : va_P D cl ws' H := by
  intro j q hj
  have h1 : (is.map (fun i => ws[i]?))[j]? = some (some q) := by rw [hs, List.getElem?_map, hj]; rfl
  rw [List.getElem?_map] at h1
  cases hi : is[j]? with
  | none => rw [hi] at h1; cases h1
  | some i => rw [hi] at h1; exact h i q (Option.some.inj h1)
/-- a method that an object of class ci of the list answers by itself -/
def kYV (y : MethodName) (bytes : ByteArray) (maxL : Nat) (rt : Option FieldType) (ci n : Nat) : Prop := Cond.code y bytes maxL rt ∈ wsA ∧ Cond.instanceMethod y ∈ wsA ∧ Cond.selects y.cls y y ∈ wsA ∧ Cond.initialized y.cls ∈ wsA ∧ (y.cls ≠ "java/lang/invoke/MethodHandle" ∧ y.cls ≠ "java/lang/invoke/VarHandle" ∧ (parseMethodDescriptor y.desc).map (fun d => d.parameters.length) = some n) ∧ maxL ≤ 16 ∧ ∃ (T : u_T) (N : Nat), vwCl[ci]? = some (y.cls, T, N)
def kYS (y : MethodName) (bytes : ByteArray) (maxL : Nat) (rt : Option FieldType) (n : Nat) : Prop := Cond.code y bytes maxL rt ∈ wsA ∧ Cond.static y ∈ wsA ∧ Cond.initialized y.cls ∈ wsA ∧ (y.cls ≠ "java/lang/invoke/MethodHandle" ∧ y.cls ≠ "java/lang/invoke/VarHandle" ∧ (parseMethodDescriptor y.desc).map (fun d => d.parameters.length) = some n) ∧ maxL ≤ 16
def kYI (y : MethodName) (bytes : ByteArray) (maxL : Nat) : Prop := Cond.code y bytes maxL none ∈ wsA ∧ Cond.instanceMethod y ∈ wsA ∧ Cond.initialized y.cls ∈ wsA ∧ (y.cls ≠ "java/lang/invoke/MethodHandle" ∧ y.cls ≠ "java/lang/invoke/VarHandle" ∧ (parseMethodDescriptor y.desc).map (fun d => d.parameters.length) = some 0) ∧ maxL ≤ 16 ∧ y.name = "<init>"
set_option maxHeartbeats 4000000 in
theorem z_callVi {S : Type} {pc index maxL n d' mc' ms' ci b : Nat} {y : MethodName} {bytes : ByteArray} {rt : FieldType} {wc wr : va_W} {post : Int → S → Prop} {w' : S → va_W} {fs As stk : List Value} (isC isR pm : List Nat) (ws' : S → va_W) (g : kG M E nL d mc ms cc own) (hM : kCI M y bytes maxL rt d' mc' ms' wc (.ref b :: As) post w') (hY : kYV y bytes maxL (some rt) ci n) (hlk : Cond.methodLink own index y ∈ wsA) (hd : decode cc pc = .ok (.invokevirtual index, 3)) (hdd : d' + 1 ≤ d) (hc : cells + mc' ≤ mc) (hs : slots + ms' ≤ ms) (hs8 : (st.map fun v => v.category).sum ≤ 8) (hC : isC.map (fun i => ws[i]?) = wc.map some) (hR : isR.map (fun i => ws[i]?) = wr.map some) (hndC : va_nd isC = true) (hnd : va_nd isR = true) (hdis : ∀ i ∈ isR, i ∉ isC) (hrec : wc[0]? = some (cO ci b fs)) (hpm : ∀ u, pm.map (fun i => (wr ++ w' u)[i]?) = (ws' u).map some) (hndp : va_nd pm = true) (hn : As.length = n) (hstk : stk = As.reverse ++ .ref b :: st)
    (kk : ∀ (z : Int) (u : S), post z u → kV M E nL (cells + mc') (slots + ms') (ws' u) lv (pc + 3) (.int (zI z) :: st)) : kV M E nL cells slots ws lv pc stk := by
  subst hstk
  obtain ⟨p, e, R, s, m, args, below, meth, c, A, Q⟩ := E
  obtain ⟨hx, hb, hml, hown, hts, hK, hA, hX, hR1, hR2, hR3, hR4⟩ := g
  intro H locs ls hP hD hS hl
  have hPc := hP.subm isC hC
  have hDc := hD.sub isC hndC hC
  have hFc := va_free (wc := wc) hD hS hA isC hC
  have hG : GoodIn wsA (.code y bytes maxL (some rt) :: wsA) := wsL_in hY.1
  obtain ⟨y1, y2, y3, y4, y5, y6, T, N, y7⟩ := hY
  have hcb : CallB R s args own index y bytes maxL (some rt) (.code y bytes maxL (some rt) :: wsA) (rmD d' mc' ms') mc' ms' n := callB_of n hts hG rfl rfl rfl (hts _ y4) (hts _ hlk) y5 ⟨by show d' + 1 ≤ R.frames; omega, by show 8 + (maxL + 11) + 35 * d' ≤ R.locals; omega⟩
  refine va_calli (va_runV (As := As) (rest := st) ⟨hx, hb, hml, hown, hts⟩ (hM H.size) ⟨hcb, hts _ y2, hts _ y3⟩ ⟨kPre.blind, va_recv hK hPc y7 hrec, fun U hU hW => ⟨rfl, by rw [hU], by rw [hU]; exact hPc, va_K.moved hW.alike hK, hDc.weaken (fun _ _ _ _ => trivial), hX.warm hW⟩⟩ rfl hn hl.1 rfl (lv_room hs8) hd ⟨by omega, by omega⟩) hS (fun q _ h => hFc q h) hFc (fun r u t H1 locs1 ht hvm hw hB hz1 hk1 hS1 => ?_)
  obtain ⟨z, rfl, hp⟩ := hw
  obtain ⟨hP1, hD1⟩ := hB
  rw [ht] at hP1
  obtain ⟨hP2, hD2⟩ := va_join (wr := wr) (w1 := w' u) hP hD isC isR hC hR hnd hdis hk1 hFc hP1 hD1
  exact kk z u hp H1 locs1 ls (hP2.subm pm (hpm u)) (hD2.sub pm hndp (hpm u)) hS1 hl
set_option maxHeartbeats 4000000 in
theorem z_callWi {S : Type} {pc index maxL n d' mc' ms' ci b : Nat} {y : MethodName} {bytes : ByteArray} {rt : FieldType} {post : Int → S → Prop} {w' : S → va_W} {fs As stk : List Value} (g : kG M E nL d mc ms cc own) (hM : kCI M y bytes maxL rt d' mc' ms' ws (.ref b :: As) post w') (hY : kYV y bytes maxL (some rt) ci n) (hlk : Cond.methodLink own index y ∈ wsA) (hd : decode cc pc = .ok (.invokevirtual index, 3)) (hdd : d' + 1 ≤ d) (hc : cells + mc' ≤ mc) (hs : slots + ms' ≤ ms) (hs8 : (st.map fun v => v.category).sum ≤ 8) (hrec : ws[0]? = some (cO ci b fs)) (hn : As.length = n) (hstk : stk = As.reverse ++ .ref b :: st)
    (kk : ∀ (z : Int) (u : S), post z u → kV M E nL (cells + mc') (slots + ms') (w' u) lv (pc + 3) (.int (zI z) :: st)) : kV M E nL cells slots ws lv pc stk := by
  subst hstk
  obtain ⟨p, e, R, s, m, args, below, meth, c, A, Q⟩ := E
  obtain ⟨hx, hb, hml, hown, hts, hK, hA, hX, hR1, hR2, hR3, hR4⟩ := g
  intro H locs ls hP hD hS hl
  have hPc := hP
  have hDc := hD
  have hFc : ∀ q, va_A ws H.size q → A q := by
    intro q h
    rcases h with ⟨k, e, h⟩ | h
    · exact hD.2 k (q, e) h
    · exact hA q (Nat.le_trans hS.1 h)
  have hG : GoodIn wsA (.code y bytes maxL (some rt) :: wsA) := wsL_in hY.1
  obtain ⟨y1, y2, y3, y4, y5, y6, T, N, y7⟩ := hY
  have hcb : CallB R s args own index y bytes maxL (some rt) (.code y bytes maxL (some rt) :: wsA) (rmD d' mc' ms') mc' ms' n := callB_of n hts hG rfl rfl rfl (hts _ y4) (hts _ hlk) y5 ⟨by show d' + 1 ≤ R.frames; omega, by show 8 + (maxL + 11) + 35 * d' ≤ R.locals; omega⟩
  refine va_calli (va_runV (As := As) (rest := st) ⟨hx, hb, hml, hown, hts⟩ (hM H.size) ⟨hcb, hts _ y2, hts _ y3⟩ ⟨kPre.blind, va_recv hK hPc y7 hrec, fun U hU hW => ⟨rfl, by rw [hU], by rw [hU]; exact hPc, va_K.moved hW.alike hK, hDc.weaken (fun _ _ _ _ => trivial), hX.warm hW⟩⟩ rfl hn hl.1 rfl (lv_room hs8) hd ⟨by omega, by omega⟩) hS (fun q _ h => hFc q h) hFc (fun r u t H1 locs1 ht hvm hw hB hz1 hk1 hS1 => ?_)
  obtain ⟨z, rfl, hp⟩ := hw
  obtain ⟨hP1, hD1⟩ := hB
  rw [ht] at hP1
  exact kk z u hp H1 locs1 ls hP1 (hD1.weaken (fun _ q _ h => hFc q.1 h)) hS1 hl
set_option maxHeartbeats 4000000 in
theorem z_callVv {S : Type} {pc index maxL n d' mc' ms' ci b : Nat} {y : MethodName} {bytes : ByteArray} {wc wr : va_W} {post : S → Prop} {w' : S → va_W} {fs As stk : List Value} (isC isR pm : List Nat) (ws' : S → va_W) (g : kG M E nL d mc ms cc own) (hM : kCV M y bytes maxL d' mc' ms' wc (.ref b :: As) post w') (hY : kYV y bytes maxL none ci n) (hlk : Cond.methodLink own index y ∈ wsA) (hd : decode cc pc = .ok (.invokevirtual index, 3)) (hdd : d' + 1 ≤ d) (hc : cells + mc' ≤ mc) (hs : slots + ms' ≤ ms) (hs8 : (st.map fun v => v.category).sum ≤ 8) (hC : isC.map (fun i => ws[i]?) = wc.map some) (hR : isR.map (fun i => ws[i]?) = wr.map some) (hndC : va_nd isC = true) (hnd : va_nd isR = true) (hdis : ∀ i ∈ isR, i ∉ isC) (hrec : wc[0]? = some (cO ci b fs)) (hpm : ∀ u, pm.map (fun i => (wr ++ w' u)[i]?) = (ws' u).map some) (hndp : va_nd pm = true) (hn : As.length = n) (hstk : stk = As.reverse ++ .ref b :: st)
    (kk : ∀ u : S, post u → kV M E nL (cells + mc') (slots + ms') (ws' u) lv (pc + 3) st) : kV M E nL cells slots ws lv pc stk := by
  subst hstk
  obtain ⟨p, e, R, s, m, args, below, meth, c, A, Q⟩ := E
  obtain ⟨hx, hb, hml, hown, hts, hK, hA, hX, hR1, hR2, hR3, hR4⟩ := g
  intro H locs ls hP hD hS hl
  have hPc := hP.subm isC hC
  have hDc := hD.sub isC hndC hC
  have hFc := va_free (wc := wc) hD hS hA isC hC
  have hG : GoodIn wsA (.code y bytes maxL none :: wsA) := wsL_in hY.1
  obtain ⟨y1, y2, y3, y4, y5, y6, T, N, y7⟩ := hY
  have hcb : CallB R s args own index y bytes maxL none (.code y bytes maxL none :: wsA) (rmD d' mc' ms') mc' ms' n := callB_of n hts hG rfl rfl rfl (hts _ y4) (hts _ hlk) y5 ⟨by show d' + 1 ≤ R.frames; omega, by show 8 + (maxL + 11) + 35 * d' ≤ R.locals; omega⟩
  refine va_callv (va_runV (As := As) (rest := st) ⟨hx, hb, hml, hown, hts⟩ (hM H.size) ⟨hcb, hts _ y2, hts _ y3⟩ ⟨kPre.blind, va_recv hK hPc y7 hrec, fun U hU hW => ⟨rfl, by rw [hU], by rw [hU]; exact hPc, va_K.moved hW.alike hK, hDc.weaken (fun _ _ _ _ => trivial), hX.warm hW⟩⟩ rfl hn hl.1 rfl (lv_room hs8) hd ⟨by omega, by omega⟩) hS (fun q _ h => hFc q h) hFc (fun u t H1 locs1 ht hvm hp hB hz1 hk1 hS1 => ?_)
  obtain ⟨hP1, hD1⟩ := hB
  rw [ht] at hP1
  obtain ⟨hP2, hD2⟩ := va_join (wr := wr) (w1 := w' u) hP hD isC isR hC hR hnd hdis hk1 hFc hP1 hD1
  exact kk u hp H1 locs1 ls (hP2.subm pm (hpm u)) (hD2.sub pm hndp (hpm u)) hS1 hl
set_option maxHeartbeats 4000000 in
theorem z_callWv {S : Type} {pc index maxL n d' mc' ms' ci b : Nat} {y : MethodName} {bytes : ByteArray} {post : S → Prop} {w' : S → va_W} {fs As stk : List Value} (g : kG M E nL d mc ms cc own) (hM : kCV M y bytes maxL d' mc' ms' ws (.ref b :: As) post w') (hY : kYV y bytes maxL none ci n) (hlk : Cond.methodLink own index y ∈ wsA) (hd : decode cc pc = .ok (.invokevirtual index, 3)) (hdd : d' + 1 ≤ d) (hc : cells + mc' ≤ mc) (hs : slots + ms' ≤ ms) (hs8 : (st.map fun v => v.category).sum ≤ 8) (hrec : ws[0]? = some (cO ci b fs)) (hn : As.length = n) (hstk : stk = As.reverse ++ .ref b :: st)
    (kk : ∀ u : S, post u → kV M E nL (cells + mc') (slots + ms') (w' u) lv (pc + 3) st) : kV M E nL cells slots ws lv pc stk := by
  subst hstk
  obtain ⟨p, e, R, s, m, args, below, meth, c, A, Q⟩ := E
  obtain ⟨hx, hb, hml, hown, hts, hK, hA, hX, hR1, hR2, hR3, hR4⟩ := g
  intro H locs ls hP hD hS hl
  have hPc := hP
  have hDc := hD
  have hFc : ∀ q, va_A ws H.size q → A q := by
    intro q h
    rcases h with ⟨k, e, h⟩ | h
    · exact hD.2 k (q, e) h
    · exact hA q (Nat.le_trans hS.1 h)
  have hG : GoodIn wsA (.code y bytes maxL none :: wsA) := wsL_in hY.1
  obtain ⟨y1, y2, y3, y4, y5, y6, T, N, y7⟩ := hY
  have hcb : CallB R s args own index y bytes maxL none (.code y bytes maxL none :: wsA) (rmD d' mc' ms') mc' ms' n := callB_of n hts hG rfl rfl rfl (hts _ y4) (hts _ hlk) y5 ⟨by show d' + 1 ≤ R.frames; omega, by show 8 + (maxL + 11) + 35 * d' ≤ R.locals; omega⟩
  refine va_callv (va_runV (As := As) (rest := st) ⟨hx, hb, hml, hown, hts⟩ (hM H.size) ⟨hcb, hts _ y2, hts _ y3⟩ ⟨kPre.blind, va_recv hK hPc y7 hrec, fun U hU hW => ⟨rfl, by rw [hU], by rw [hU]; exact hPc, va_K.moved hW.alike hK, hDc.weaken (fun _ _ _ _ => trivial), hX.warm hW⟩⟩ rfl hn hl.1 rfl (lv_room hs8) hd ⟨by omega, by omega⟩) hS (fun q _ h => hFc q h) hFc (fun u t H1 locs1 ht hvm hp hB hz1 hk1 hS1 => ?_)
  obtain ⟨hP1, hD1⟩ := hB
  rw [ht] at hP1
  exact kk u hp H1 locs1 ls hP1 (hD1.weaken (fun _ q _ h => hFc q.1 h)) hS1 hl
set_option maxHeartbeats 4000000 in
theorem z_callS {S : Type} {pc index maxL n d' : Nat} {y : MethodName} {bytes : ByteArray} {rt : FieldType} {post : Int → S → Prop} {As stk : List Value} (g : kG M E nL d mc ms cc own) (hM : kCI M y bytes maxL rt d' 0 0 [] As post (fun _ => [])) (hY : kYS y bytes maxL (some rt) n) (hlk : Cond.methodLink own index y ∈ wsA) (hd : decode cc pc = .ok (.invokestatic index, 3)) (hdd : d' + 1 ≤ d) (hc : cells ≤ mc) (hs : slots ≤ ms) (hs8 : (st.map fun v => v.category).sum ≤ 8) (hn : As.length = n) (hstk : stk = As.reverse ++ st)
    (kk : ∀ (z : Int) (u : S), post z u → kV M E nL cells slots ws lv (pc + 3) (.int (zI z) :: st)) : kV M E nL cells slots ws lv pc stk := by
  subst hstk
  obtain ⟨p, e, R, s, m, args, below, meth, c, A, Q⟩ := E
  obtain ⟨hx, hb, hml, hown, hts, hK, hA, hX, hR1, hR2, hR3, hR4⟩ := g
  intro H locs ls hP hD hS hl
  have hFc : ∀ q, va_A [] H.size q → A q := by
    intro q h
    rcases h with ⟨k, e, h⟩ | h
    · simp at h
    · exact hA q (Nat.le_trans hS.1 h)
  have hG : GoodIn wsA (.code y bytes maxL (some rt) :: wsA) := wsL_in hY.1
  obtain ⟨y1, y2, y4, y5, y6⟩ := hY
  have hcb : CallB R s args own index y bytes maxL (some rt) (.code y bytes maxL (some rt) :: wsA) (rmD d' 0 0) 0 0 n := callB_of n hts hG rfl rfl rfl (hts _ y4) (hts _ hlk) y5 ⟨by show d' + 1 ≤ R.frames; omega, by show 8 + (maxL + 11) + 35 * d' ≤ R.locals; omega⟩
  refine va_calli (va_runS (As := As) (rest := st) ⟨hx, hb, hml, hown, hts⟩ (hM H.size) ⟨hcb, hts _ y2⟩ ⟨kPre.blind, fun U hU hW => ⟨rfl, by rw [hU], fun k q h => by simp at h, va_K.moved hW.alike hK, ⟨fun i j p q h => by simp at h, fun k q h => by simp at h⟩, hX.warm hW⟩⟩ rfl hn hl.1 rfl (lv_room hs8) hd ⟨by omega, by omega⟩) hS (fun q _ h => hFc q h) hFc (fun r u t H1 locs1 ht hvm hw hB hz1 hk1 hS1 => ?_)
  obtain ⟨z, rfl, hp⟩ := hw
  have hPk : va_P M.1 vwCl ws H1 := hP.kept (fun k q hk => hk1 q.1 ((hP k q hk).lt) (by
    rintro (⟨k2, e2, h2⟩ | h2)
    · simp at h2
    · have := (hP k q hk).lt
      omega))
  exact kk z u hp H1 locs1 ls hPk hD hS1 hl
set_option maxHeartbeats 4000000 in
theorem z_callI {S : Type} {pc index maxL d' mc' ms' b : Nat} {y : MethodName} {bytes : ByteArray} {wc wr : va_W} {post : S → Prop} {w' : S → va_W} (isC isR pm : List Nat) (ws' : S → va_W) (g : kG M E nL d mc ms cc own) (hM : kCV M y bytes maxL d' mc' ms' wc [.ref b] post w') (hY : kYI y bytes maxL) (hlk : Cond.methodLink own index y ∈ wsA) (hd : decode cc pc = .ok (.invokespecial index, 3)) (hdd : d' + 1 ≤ d) (hc : cells + mc' ≤ mc) (hs : slots + ms' ≤ ms) (hs8 : (st.map fun v => v.category).sum ≤ 8) (hC : isC.map (fun i => ws[i]?) = wc.map some) (hR : isR.map (fun i => ws[i]?) = wr.map some) (hndC : va_nd isC = true) (hnd : va_nd isR = true) (hdis : ∀ i ∈ isR, i ∉ isC) (hpm : ∀ u, pm.map (fun i => (wr ++ w' u)[i]?) = (ws' u).map some) (hndp : va_nd pm = true)
    (kk : ∀ u : S, post u → kV M E nL (cells + mc') (slots + ms') (ws' u) lv (pc + 3) st) : kV M E nL cells slots ws lv pc (.ref b :: st) := by
  obtain ⟨p, e, R, s, m, args, below, meth, c, A, Q⟩ := E
  obtain ⟨hx, hb, hml, hown, hts, hK, hA, hX, hR1, hR2, hR3, hR4⟩ := g
  intro H locs ls hP hD hS hl
  have hPc := hP.subm isC hC
  have hDc := hD.sub isC hndC hC
  have hFc := va_free (wc := wc) hD hS hA isC hC
  have hG : GoodIn wsA (.code y bytes maxL none :: wsA) := wsL_in hY.1
  obtain ⟨y1, y2, y4, y5, y6, y7⟩ := hY
  have hcb : CallB R s args own index y bytes maxL none (.code y bytes maxL none :: wsA) (rmD d' mc' ms') mc' ms' 0 := callB_of 0 hts hG rfl rfl rfl (hts _ y4) (hts _ hlk) y5 ⟨by show d' + 1 ≤ R.frames; omega, by show 8 + (maxL + 11) + 35 * d' ≤ R.locals; omega⟩
  refine va_callv (va_runI (As := []) (rest := st) ⟨hx, hb, hml, hown, hts⟩ (hM H.size) ⟨hcb, y7, hts _ y2⟩ ⟨kPre.blind, fun U hU hW => ⟨rfl, by rw [hU], by rw [hU]; exact hPc, va_K.moved hW.alike hK, hDc.weaken (fun _ _ _ _ => trivial), hX.warm hW⟩⟩ rfl rfl hl.1 rfl (lv_room hs8) hd ⟨by omega, by omega⟩) hS (fun q _ h => hFc q h) hFc (fun u t H1 locs1 ht hvm hp hB hz1 hk1 hS1 => ?_)
  obtain ⟨hP1, hD1⟩ := hB
  rw [ht] at hP1
  obtain ⟨hP2, hD2⟩ := va_join (wr := wr) (w1 := w' u) hP hD isC isR hC hR hnd hdis hk1 hFc hP1 hD1
  exact kk u hp H1 locs1 ls (hP2.subm pm (hpm u)) (hD2.sub pm hndp (hpm u)) hS1 hl
set_option maxHeartbeats 4000000 in
theorem z_callIN {S : Type} {pc index maxL d' mc' ms' b : Nat} {y : MethodName} {bytes : ByteArray} {wc wr : va_W} {post : S → Prop} {w' : S → va_W} (isC isR pm : List Nat) (ws' : S → va_W) (g : kG M E nL d mc ms cc own) (hM : kCV M y bytes maxL d' mc' ms' wc [.ref b] post w') (hY : kYI y bytes maxL) (hN : ∀ U, kX U → va_Nw (.methodLinkNest own index y RX10) U) (hd : decode cc pc = .ok (.invokespecial index, 3)) (hdd : d' + 1 ≤ d) (hc : cells + mc' ≤ mc) (hs : slots + ms' ≤ ms) (hs8 : (st.map fun v => v.category).sum ≤ 8) (hC : isC.map (fun i => ws[i]?) = wc.map some) (hR : isR.map (fun i => ws[i]?) = wr.map some) (hndC : va_nd isC = true) (hnd : va_nd isR = true) (hdis : ∀ i ∈ isR, i ∉ isC) (hpm : ∀ u, pm.map (fun i => (wr ++ w' u)[i]?) = (ws' u).map some) (hndp : va_nd pm = true)
    (kk : ∀ u : S, post u → kV M E nL (cells + mc') (slots + ms') (ws' u) lv (pc + 3) st) : kV M E nL cells slots ws lv pc (.ref b :: st) := by
  obtain ⟨p, e, R, s, m, args, below, meth, c, A, Q⟩ := E
  obtain ⟨hx, hb, hml, hown, hts, hK, hA, hX, hR1, hR2, hR3, hR4⟩ := g
  intro H locs ls hP hD hS hl
  have hPc := hP.subm isC hC
  have hDc := hD.sub isC hndC hC
  have hFc := va_free (wc := wc) hD hS hA isC hC
  have hG : GoodIn wsA (.code y bytes maxL none :: wsA) := wsL_in hY.1
  obtain ⟨y1, y2, y4, y5, y6, y7⟩ := hY
  have hcb := va_cnB (R := R) (host := RX10) (mc := mc') (ms := ms') 0 hts hG rfl rfl rfl (hN s hX) (hts _ y4) y5 (rm := rmD d' mc' ms') ⟨by show d' + 1 ≤ R.frames; omega, by show 8 + (maxL + 11) + 35 * d' ≤ R.locals; omega⟩
  refine va_callv (va_runIN (As := []) (rest := st) ⟨hx, hb, hml, hown, hts⟩ (hM H.size) ⟨hcb, y7, hts _ y2⟩ ⟨kPre.blind, fun U hU hW => ⟨rfl, by rw [hU], by rw [hU]; exact hPc, va_K.moved hW.alike hK, hDc.weaken (fun _ _ _ _ => trivial), hX.warm hW⟩⟩ rfl rfl hl.1 rfl (lv_room hs8) hd ⟨by omega, by omega⟩) hS (fun q _ h => hFc q h) hFc (fun u t H1 locs1 ht hvm hp hB hz1 hk1 hS1 => ?_)
  obtain ⟨hP1, hD1⟩ := hB
  rw [ht] at hP1
  obtain ⟨hP2, hD2⟩ := va_join (wr := wr) (w1 := w' u) hP hD isC isR hC hR hnd hdis hk1 hFc hP1 hD1
  exact kk u hp H1 locs1 ls (hP2.subm pm (hpm u)) (hD2.sub pm hndp (hpm u)) hS1 hl
/-- the law's script -/
def kS (E : KE) (b L : Nat) (xs : Nat → Int32) : Prop :=
  match E with
  | (_, _, _, s, _, _, _, _, _, A, _) => va_X b L xs s s.heap ∧ b < s.heap.size ∧ ¬ A b
theorem z_sld {pc b L : Nat} {xs : Nat → Int32} {z : Int} (k : Nat) (g : kG M E nL d mc ms cc own) (hs : kS E b L xs) (hd : decode cc pc = .ok (.iaload, 1)) (hz : z = (k : Int)) (hk : k < L) (hL : L < 2147483648) (kk : kV M E nL cells slots ws lv (pc + 1) (.int (zI (xs k).toInt) :: st)) : kV M E nL cells slots ws lv pc (.int (zI z) :: .ref b :: st) := by
  obtain ⟨p, e, R, s, m, args, below, meth, c, A, Q⟩ := E
  obtain ⟨hx, hb, hml, hown, hts, hK, hA, hX, hR1, hR2, hR3, hR4⟩ := g
  intro H locs ls hP hD hS hl
  obtain ⟨hX1, hX2, hX3⟩ := hs
  refine va_sld hx hb hX1 hX2 hX3 hS (zI_in hz hk hL) hd ?_
  rw [zI_clamp hz (by omega)]
  rw [zI_self] at kk
  exact kk H locs ls hP hD hS hl
theorem z_slen {pc b L : Nat} {xs : Nat → Int32} (g : kG M E nL d mc ms cc own) (hs : kS E b L xs) (hd : decode cc pc = .ok (.arraylength, 1)) (kk : kV M E nL cells slots ws lv (pc + 1) (.int (zI (L : Int)) :: st)) : kV M E nL cells slots ws lv pc (.ref b :: st) := by
  obtain ⟨p, e, R, s, m, args, below, meth, c, A, Q⟩ := E
  obtain ⟨hx, hb, hml, hown, hts, hK, hA, hX, hR1, hR2, hR3, hR4⟩ := g
  intro H locs ls hP hD hS hl
  obtain ⟨hX1, hX2, hX3⟩ := hs
  refine va_slen hx hb hX1 hX2 hX3 hS hd ?_
  rw [zI_nat] at kk
  exact kk H locs ls hP hD hS hl
end KR
