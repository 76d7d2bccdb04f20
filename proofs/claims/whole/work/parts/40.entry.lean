/-! THE CLAIM OUT OF ONE WALK OF THE LAW'S BODY. Your part is whole_start (and what it stands on); all else here is the same for every law, but numbers. -/
def R_law : String := "ChipBoardsLaw"
def lw_P (b : Addr) (xs : List Int32) (args : Array Value) (s : State) : Prop := args = #[.ref b] ∧ s.IntsAt b xs ∧ xs.length ≤ 3072 ∧ (Jvm.Cond.and given_1 narrow_1).before args s = true
def lw_Q (_ : Array Value) (s : State) (o : Outcome) (t : State) : Prop := o = .returned (some (.int 1)) ∧ Framed s o t [] 600000 7302250
def lw_Z (below : List Frame) (a : Array Value) (s : State) : State → Prop := fun t => ∃ o, t.status = .running ∧ Ended t below o ∧ lw_Q a s o t
/-- the law's own end, with 1 on the stack, nothing written that was there before, its room as the claim has it -/
theorem lw_ret {p : Program} {l : Launch} {e : Env} {s : State} {m : MethodId} {below : List Frame} {meth : Method} {c : Code} {b : Nat} (hx : p.tables.exec = Jvm.exec) (hb : c.code = code) (hr : meth.sig.returnType = ret) (hlocks : meth.locks = false) {pc : Nat} {H : Heap} {ls : Array Slot} (hdg : decode code pc = .ok (.ireturn, 1)) : W p l e room_1 s m #[Value.ref b] below meth c H [] 600000 7302250 (lw_Z below #[Value.ref b] s) (F0 m pc ls [.int 1]) := by
  intro T hT X
  obtain ⟨fs, hret, hrun, hended, hW, hframe⟩ := X.leave (v := some (.int 1)) (hlocks := hlocks) (fun h => by rw [hr] at h; cases h)
  have hmeth' : T.vm.method? m = some meth := X.method'
  refine ⟨T.setFrames fs, ?_, .returned (some (.int 1)), hrun, hended, rfl, ⟨_, rfl⟩, hW, hframe⟩
  jvm_step X.here [X.here.top, hx, hb, hdg, hmeth', hr, ret, narrow_b1]
  (try refine ⟨rfl, ?_⟩); (try refine ⟨rfl, ?_⟩)
  first | (intro acts; rw [hret _ acts rfl rfl rfl]) | rw [hret _ _ rfl rfl rfl]
  exact Steps.refl _
/-- what holds at the law's entry: the machine, the code, the tables' words (any of lw_tbl by 'hts w (by decide +kernel)'), the script of L ints xs at the cell b, what the Statement gives of the start (any of its parts by flat_of_before) -/
def lw_At (p : Program) (s : State) (m : MethodId) (meth : Method) (c : Code) (b L : Nat) (xs : Nat → Int32) : Prop :=
  p.tables.exec = Jvm.exec ∧ c.code = code ∧ meth.sig.returnType = ret ∧ c.maxLocals = 4 ∧ s.vm.findClass R_law = some m.cls ∧ (∀ w ∈ lw_tbl, w.before #[Value.ref b] s = true) ∧ va_X b L xs s s.heap ∧ b < s.heap.size ∧ meth.locks = false ∧ (Jvm.Cond.and given_1 narrow_1).before #[Value.ref b] s = true
theorem lt_1 {w : Cond} (i : Nat) (h : tables_1_1[i]? = some w) : w ∈ lw_tbl := List.mem_append_right _ (List.mem_append_left _ (List.mem_of_getElem? h))
set_option maxHeartbeats 4000000 in
set_option maxRecDepth 100000 in
theorem lw_K (l : Launch) {s : State} {b : Nat} (htA : ∀ w ∈ wsA, w.before #[Value.ref b] s = true) (hX : kX s) : ∃ M : KM, M.2.2 = l ∧ va_K M.1 vwCl (tyM M) s := by
  obtain ⟨c0, i0, k0⟩ := u_known (C := RX0) (T := TX0) (N := 4) (n := 4) htA in_X0 (htA _ (wsA_1 30 rfl rfl))
  obtain ⟨c1, i1, k1⟩ := u_known (C := RX1) (T := TX1) (N := 6) (n := 6) htA in_X1 (htA _ (wsA_1 213 rfl rfl))
  obtain ⟨c2, i2, k2⟩ := u_known (C := RX2) (T := TX2) (N := 3) (n := 3) htA in_X2 (htA _ (wsA_1 94 rfl rfl))
  obtain ⟨c3, i3, k3⟩ := u_known (C := RX3) (T := TX3) (N := 3) (n := 3) htA in_X3 (htA _ (wsA_1 172 rfl rfl))
  obtain ⟨c4, i4, k4⟩ := u_known (C := RX4) (T := TX4) (N := 2) (n := 2) htA in_X4 (htA _ (wsA_1 52 rfl rfl))
  obtain ⟨c5, i5, k5⟩ := u_known (C := RX5) (T := TX5) (N := 2) (n := 2) htA in_X5 (htA _ (wsA_1 66 rfl rfl))
  obtain ⟨c6, i6, k6⟩ := u_known (C := RX6) (T := TX6) (N := 2) (n := 2) htA in_X6 (htA _ (wsA_1 80 rfl rfl))
  obtain ⟨c7, i7, k7⟩ := u_known (C := RX7) (T := TX7) (N := 6) (n := 6) htA in_X7 (htA _ (wsA_1 188 rfl rfl))
  obtain ⟨c8, i8, k8⟩ := u_known (C := RX8) (T := TX8) (N := 4) (n := 4) htA in_X8 (htA _ (wsA_1 110 rfl rfl))
  obtain ⟨c9, i9, k9⟩ := u_known (C := RX9) (T := TX9) (N := 10) (n := 10) htA in_X9 (htA _ (wsA_1 24 rfl rfl))
  obtain ⟨c10, i10, k10⟩ := u_known (C := RX10) (T := TX10) (N := 5) (n := 5) htA in_X10 (htA _ (wsA_1 16 rfl rfl))
  obtain ⟨c11, i11, k11⟩ := u_known (C := RX11) (T := TX11) (N := 9) (n := 9) htA in_X11 (htA _ (wsA_3 158 rfl rfl))
  obtain ⟨cI0, kI0, mI0, a1, a2, a3⟩ := Cond.arrayClass_spec (htA (.arrayClass .int) ar_I)
  obtain ⟨cZ0, kZ0, mZ0, b1, b2, b3⟩ := Cond.arrayClass_spec (htA (.arrayClass .boolean) ar_Z)
  obtain ⟨mT0, cT0, kT0, d1, d2, d3, d4, d5⟩ := Cond.arrayOver_spec hX.2.2.2.2.2.2.2.2.2.1
  obtain ⟨mG0, cG0, kG0, e1, e2, e3, e4, e5⟩ := arrayOverA_spec hX.2.2.2.2.2.2.2.2.2.2
  refine ⟨((fun k => match k with | 0 => c0 | 1 => c1 | 2 => c2 | 3 => c3 | 4 => c4 | 5 => c5 | 6 => c6 | 7 => c7 | 8 => c8 | 9 => c9 | 10 => c10 | _ => c11, fun k => match k with | 0 => i0 | 1 => i1 | 2 => i2 | 3 => i3 | 4 => i4 | 5 => i5 | 6 => i6 | 7 => i7 | 8 => i8 | 9 => i9 | 10 => i10 | _ => i11), (fun k => match k with | 0 => cI0 | 1 => cZ0 | 2 => cT0 | _ => cG0), l), rfl, fun k q hq => ?_, fun k q hq => ?_⟩
  · match k, hq with
    | 0, hq => cases hq; exact k0
    | 1, hq => cases hq; exact k1
    | 2, hq => cases hq; exact k2
    | 3, hq => cases hq; exact k3
    | 4, hq => cases hq; exact k4
    | 5, hq => cases hq; exact k5
    | 6, hq => cases hq; exact k6
    | 7, hq => cases hq; exact k7
    | 8, hq => cases hq; exact k8
    | 9, hq => cases hq; exact k9
    | 10, hq => cases hq; exact k10
    | 11, hq => cases hq; exact k11
    | k + 12, hq => simp [vwCl] at hq
  · match k, hq with
    | 0, hq => cases hq; exact ⟨fun N z => ⟨(fun k h => by cases h), kI0, a2, mI0, a3⟩, a1⟩
    | 1, hq => cases hq; exact ⟨fun N z => ⟨(fun k h => by cases h), kZ0, b2, mZ0, b3⟩, b1⟩
    | 2, hq => cases hq; exact ⟨fun N z => ⟨(fun k h => by cases h), kT0, d3, mT0, d4⟩, kT0, mT0, d3, d4, d1, d5⟩
    | 3, hq => cases hq; exact ⟨fun N z => ⟨(fun k h => by cases h), kG0, e3, mG0, e4⟩, e5⟩
    | k + 4, hq => simp [tyM] at hq
set_option maxHeartbeats 4000000 in
set_option maxRecDepth 100000 in
theorem whole_start {p : Program} {e : Env} {s : State} {m : MethodId} {below : List Frame} {meth : Method} {c : Code} (l : Launch) {b L : Nat} {xs : Nat → Int32} (hL : L ≤ 3072) (C0 : lw_At p s m meth c b L xs) : W p l e room_1 s m #[Value.ref b] below meth c s.heap [] 0 0 (lw_Z below #[Value.ref b] s) (entryFrame m ([Value.ref b] : List Value).toArray 4) := by
  obtain ⟨hx, hb, hr, hml, hown, hts, hX, hbl, hlocks, hgv⟩ := C0
  have htA : ∀ w ∈ wsA, w.before #[Value.ref b] s = true := fun w hw => hts w (List.mem_filter.mp hw).1
  have hXs : kX s := ⟨va_Nw.of rfl (hts _ (lt_1 25 rfl)), va_Nw.of rfl (hts _ (lt_1 31 rfl)), va_Nw.of rfl (hts _ (lt_1 53 rfl)), va_Nw.of rfl (hts _ (lt_1 67 rfl)), va_Nw.of rfl (hts _ (lt_1 81 rfl)), va_Nw.of rfl (hts _ (lt_1 111 rfl)), va_Nw.of rfl (hts _ (lt_1 173 rfl)), va_Nw.of rfl (hts _ (lt_1 189 rfl)), va_Nw.of rfl (hts _ (lt_1 214 rfl)), va_AO.of (hts _ (lt_1 170 rfl)), (hts (.arrayOver (.array .int)) (lt_1 219 rfl))⟩
  obtain ⟨M, hMl, hK⟩ := lw_K l htA hXs
  subst hMl
  have hl := lv_entry ([.ref b]) (n := 4) (Nat.le_of_ble_eq_true rfl)
  rw [lg_entry_eq]
  generalize (lg_sl ([.ref b]) ++ List.replicate (4 - (lg_sl ([.ref b])).length) Slot.unset).toArray = ls at hl ⊢
  have hl : lv_has ls 4 [(0, .ref b)] := hl
  have key := lw_start M (p, e, room_1, s, m, #[Value.ref b], below, meth, c, (fun q : Nat => s.heap.size ≤ q), lw_Z below #[Value.ref b] s) b L xs ⟨hx, hb, hml, hown, htA, hK, fun _ h => h, hXs, Nat.le_of_ble_eq_true rfl, Nat.le_of_ble_eq_true rfl, Nat.le_of_ble_eq_true rfl, Nat.le_of_ble_eq_true rfl⟩ ⟨hX, hbl, Nat.not_le.mpr hbl⟩ hL (fun cells slots ws lv h1 h2 H locs ls hP hD hS hl => by
    rw [zI_1]
    exact va_forget (fun q hq => hS.2.2 q hq) (W.widen h1 h2 (lw_ret hx hb hr hlocks dL_law_897)))
  exact key s.heap [] ls (fun k q h => by simp at h) ⟨fun i j p q h => by simp at h, fun k q h => by simp at h⟩ va_S.rf hl
