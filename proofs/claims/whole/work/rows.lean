section
-- ===== PART A: goes FIRST, ahead of the names: the tables' words, and 'selects' of the private methods out of them =====
/-- a private method of a class that the tables say can be made, by its rows of tables_1 -/
def lw_okq (q : MethodName × Nat) : Prop := (q.1.cls ≠ "java/lang/invoke/MethodHandle" ∧ q.1.cls ≠ "java/lang/invoke/VarHandle") ∧ Cond.instantiable q.1.cls q.2 ∈ tables_1 ∧ Cond.privateMethod q.1 ∈ tables_1 ∧ Cond.instanceMethod q.1 ∈ tables_1
theorem lw_p0 : lw_okq (⟨"ChipBoards", "timeOf", "(II)I"⟩, 5) := ⟨⟨by decide +kernel, by decide +kernel⟩, List.mem_of_getElem? (i := 16) (by decide +kernel), List.mem_of_getElem? (i := 384) (by decide +kernel), List.mem_of_getElem? (i := 385) (by decide +kernel)⟩
theorem lw_p1 : lw_okq (⟨"ChipBoards$RowSearch", "reach", "(III)Z"⟩, 6) := ⟨⟨by decide +kernel, by decide +kernel⟩, List.mem_of_getElem? (i := 188) (by decide +kernel), List.mem_of_getElem? (i := 472) (by decide +kernel), List.mem_of_getElem? (i := 473) (by decide +kernel)⟩
theorem lw_p2 : lw_okq (⟨"ChipBoards$RowSearch", "writeRow", "(I)I"⟩, 6) := ⟨⟨by decide +kernel, by decide +kernel⟩, List.mem_of_getElem? (i := 188) (by decide +kernel), List.mem_of_getElem? (i := 494) (by decide +kernel), List.mem_of_getElem? (i := 495) (by decide +kernel)⟩
theorem lw_p3 : lw_okq (⟨"ChipBoards$CutTable", "choose", "(IILChipBoards$Sheets;I)V"⟩, 6) := ⟨⟨by decide +kernel, by decide +kernel⟩, List.mem_of_getElem? (i := 213) (by decide +kernel), List.mem_of_getElem? (i := 525) (by decide +kernel), List.mem_of_getElem? (i := 526) (by decide +kernel)⟩
theorem lw_p4 : lw_okq (⟨"ChipBoards$CutTable", "tryCut", "(II)V"⟩, 6) := ⟨⟨by decide +kernel, by decide +kernel⟩, List.mem_of_getElem? (i := 213) (by decide +kernel), List.mem_of_getElem? (i := 545) (by decide +kernel), List.mem_of_getElem? (i := 546) (by decide +kernel)⟩
theorem lw_p5 : lw_okq (⟨"ChipBoards$CutTable", "writeCut", "(I)V"⟩, 6) := ⟨⟨by decide +kernel, by decide +kernel⟩, List.mem_of_getElem? (i := 213) (by decide +kernel), List.mem_of_getElem? (i := 552) (by decide +kernel), List.mem_of_getElem? (i := 553) (by decide +kernel)⟩
theorem lw_p6 : lw_okq (⟨"ChipBoards$CutTable", "writeWhole", "(II)V"⟩, 6) := ⟨⟨by decide +kernel, by decide +kernel⟩, List.mem_of_getElem? (i := 213) (by decide +kernel), List.mem_of_getElem? (i := 556) (by decide +kernel), List.mem_of_getElem? (i := 557) (by decide +kernel)⟩
theorem lw_p7 : lw_okq (⟨"ChipBoardsModel", "isOf", "(II)Z"⟩, 9) := ⟨⟨by decide +kernel, by decide +kernel⟩, List.mem_of_getElem? (i := 638) (by decide +kernel), List.mem_of_getElem? (i := 683) (by decide +kernel), List.mem_of_getElem? (i := 684) (by decide +kernel)⟩
theorem lw_p8 : lw_okq (⟨"ChipBoardsModel", "glueLeft", "()I"⟩, 9) := ⟨⟨by decide +kernel, by decide +kernel⟩, List.mem_of_getElem? (i := 638) (by decide +kernel), List.mem_of_getElem? (i := 707) (by decide +kernel), List.mem_of_getElem? (i := 708) (by decide +kernel)⟩
theorem lw_p9 : lw_okq (⟨"ChipBoardsModel", "takes", "(I)I"⟩, 9) := ⟨⟨by decide +kernel, by decide +kernel⟩, List.mem_of_getElem? (i := 638) (by decide +kernel), List.mem_of_getElem? (i := 711) (by decide +kernel), List.mem_of_getElem? (i := 712) (by decide +kernel)⟩
theorem lw_p10 : lw_okq (⟨"ChipBoardsModel", "cold", "()V"⟩, 9) := ⟨⟨by decide +kernel, by decide +kernel⟩, List.mem_of_getElem? (i := 638) (by decide +kernel), List.mem_of_getElem? (i := 731) (by decide +kernel), List.mem_of_getElem? (i := 732) (by decide +kernel)⟩
theorem lw_p11 : lw_okq (⟨"ChipBoardsModel", "tick", "(I)V"⟩, 9) := ⟨⟨by decide +kernel, by decide +kernel⟩, List.mem_of_getElem? (i := 638) (by decide +kernel), List.mem_of_getElem? (i := 735) (by decide +kernel), List.mem_of_getElem? (i := 736) (by decide +kernel)⟩
theorem lw_p12 : lw_okq (⟨"ChipBoardsModel", "mayOpen", "(I)Z"⟩, 9) := ⟨⟨by decide +kernel, by decide +kernel⟩, List.mem_of_getElem? (i := 638) (by decide +kernel), List.mem_of_getElem? (i := 739) (by decide +kernel), List.mem_of_getElem? (i := 740) (by decide +kernel)⟩
theorem lw_p13 : lw_okq (⟨"ChipBoardsModel", "steam", "(II)I"⟩, 9) := ⟨⟨by decide +kernel, by decide +kernel⟩, List.mem_of_getElem? (i := 638) (by decide +kernel), List.mem_of_getElem? (i := 743) (by decide +kernel), List.mem_of_getElem? (i := 744) (by decide +kernel)⟩
theorem lw_p14 : lw_okq (⟨"ChipBoardsModel", "distances", "()V"⟩, 9) := ⟨⟨by decide +kernel, by decide +kernel⟩, List.mem_of_getElem? (i := 638) (by decide +kernel), List.mem_of_getElem? (i := 772) (by decide +kernel), List.mem_of_getElem? (i := 773) (by decide +kernel)⟩
theorem lw_p15 : lw_okq (⟨"ChipBoardsModel", "onward", "(II)I"⟩, 9) := ⟨⟨by decide +kernel, by decide +kernel⟩, List.mem_of_getElem? (i := 638) (by decide +kernel), List.mem_of_getElem? (i := 776) (by decide +kernel), List.mem_of_getElem? (i := 777) (by decide +kernel)⟩
def lw_privs_1 : List (MethodName × Nat) := [(⟨"ChipBoards", "timeOf", "(II)I"⟩, 5), (⟨"ChipBoards$RowSearch", "reach", "(III)Z"⟩, 6), (⟨"ChipBoards$RowSearch", "writeRow", "(I)I"⟩, 6), (⟨"ChipBoards$CutTable", "choose", "(IILChipBoards$Sheets;I)V"⟩, 6), (⟨"ChipBoards$CutTable", "tryCut", "(II)V"⟩, 6), (⟨"ChipBoards$CutTable", "writeCut", "(I)V"⟩, 6), (⟨"ChipBoards$CutTable", "writeWhole", "(II)V"⟩, 6), (⟨"ChipBoardsModel", "isOf", "(II)Z"⟩, 9), (⟨"ChipBoardsModel", "glueLeft", "()I"⟩, 9), (⟨"ChipBoardsModel", "takes", "(I)I"⟩, 9), (⟨"ChipBoardsModel", "cold", "()V"⟩, 9), (⟨"ChipBoardsModel", "tick", "(I)V"⟩, 9), (⟨"ChipBoardsModel", "mayOpen", "(I)Z"⟩, 9), (⟨"ChipBoardsModel", "steam", "(II)I"⟩, 9), (⟨"ChipBoardsModel", "distances", "()V"⟩, 9), (⟨"ChipBoardsModel", "onward", "(II)I"⟩, 9)]
theorem lw_r1 : ∀ q ∈ lw_privs_1, lw_okq q := List.forall_mem_cons.mpr ⟨lw_p0, List.forall_mem_cons.mpr ⟨lw_p1, List.forall_mem_cons.mpr ⟨lw_p2, List.forall_mem_cons.mpr ⟨lw_p3, List.forall_mem_cons.mpr ⟨lw_p4, List.forall_mem_cons.mpr ⟨lw_p5, List.forall_mem_cons.mpr ⟨lw_p6, List.forall_mem_cons.mpr ⟨lw_p7, List.forall_mem_cons.mpr ⟨lw_p8, List.forall_mem_cons.mpr ⟨lw_p9, List.forall_mem_cons.mpr ⟨lw_p10, List.forall_mem_cons.mpr ⟨lw_p11, List.forall_mem_cons.mpr ⟨lw_p12, List.forall_mem_cons.mpr ⟨lw_p13, List.forall_mem_cons.mpr ⟨lw_p14, List.forall_mem_cons.mpr ⟨lw_p15, fun _ h => absurd h List.not_mem_nil⟩⟩⟩⟩⟩⟩⟩⟩⟩⟩⟩⟩⟩⟩⟩⟩
theorem lw_p16 : lw_okq (⟨"ChipBoardsModel", "next", "(II)I"⟩, 9) := ⟨⟨by decide +kernel, by decide +kernel⟩, List.mem_of_getElem? (i := 638) (by decide +kernel), List.mem_of_getElem? (i := 780) (by decide +kernel), List.mem_of_getElem? (i := 781) (by decide +kernel)⟩
theorem lw_p17 : lw_okq (⟨"ChipBoardsModel", "isBad", "(I)Z"⟩, 9) := ⟨⟨by decide +kernel, by decide +kernel⟩, List.mem_of_getElem? (i := 638) (by decide +kernel), List.mem_of_getElem? (i := 784) (by decide +kernel), List.mem_of_getElem? (i := 785) (by decide +kernel)⟩
theorem lw_p18 : lw_okq (⟨"ChipBoardsModel", "reckons", "(II)V"⟩, 9) := ⟨⟨by decide +kernel, by decide +kernel⟩, List.mem_of_getElem? (i := 638) (by decide +kernel), List.mem_of_getElem? (i := 803) (by decide +kernel), List.mem_of_getElem? (i := 804) (by decide +kernel)⟩
theorem lw_p19 : lw_okq (⟨"ChipBoardsModel", "settles", "(II)V"⟩, 9) := ⟨⟨by decide +kernel, by decide +kernel⟩, List.mem_of_getElem? (i := 638) (by decide +kernel), List.mem_of_getElem? (i := 807) (by decide +kernel), List.mem_of_getElem? (i := 808) (by decide +kernel)⟩
theorem lw_p20 : lw_okq (⟨"ChipBoardsModel", "tries", "(III)V"⟩, 9) := ⟨⟨by decide +kernel, by decide +kernel⟩, List.mem_of_getElem? (i := 638) (by decide +kernel), List.mem_of_getElem? (i := 814) (by decide +kernel), List.mem_of_getElem? (i := 815) (by decide +kernel)⟩
theorem lw_p21 : lw_okq (⟨"ChipBoardsModel", "comes", "(III)I"⟩, 9) := ⟨⟨by decide +kernel, by decide +kernel⟩, List.mem_of_getElem? (i := 638) (by decide +kernel), List.mem_of_getElem? (i := 822) (by decide +kernel), List.mem_of_getElem? (i := 823) (by decide +kernel)⟩
def lw_privs_2 : List (MethodName × Nat) := [(⟨"ChipBoardsModel", "next", "(II)I"⟩, 9), (⟨"ChipBoardsModel", "isBad", "(I)Z"⟩, 9), (⟨"ChipBoardsModel", "reckons", "(II)V"⟩, 9), (⟨"ChipBoardsModel", "settles", "(II)V"⟩, 9), (⟨"ChipBoardsModel", "tries", "(III)V"⟩, 9), (⟨"ChipBoardsModel", "comes", "(III)I"⟩, 9)]
theorem lw_r2 : ∀ q ∈ lw_privs_2, lw_okq q := List.forall_mem_cons.mpr ⟨lw_p16, List.forall_mem_cons.mpr ⟨lw_p17, List.forall_mem_cons.mpr ⟨lw_p18, List.forall_mem_cons.mpr ⟨lw_p19, List.forall_mem_cons.mpr ⟨lw_p20, List.forall_mem_cons.mpr ⟨lw_p21, fun _ h => absurd h List.not_mem_nil⟩⟩⟩⟩⟩⟩
def lw_privs : List (MethodName × Nat) := lw_privs_1 ++ (lw_privs_2)
def lw_tbl : List Cond := k2_sels lw_privs ++ tables_1
theorem lw_privs_ok : ∀ q ∈ lw_privs, lw_okq q := by
  show ∀ q ∈ lw_privs_1 ++ (lw_privs_2), lw_okq q
  exact List.forall_mem_append.mpr ⟨lw_r1, lw_r2⟩
end
section
def va_AOA (t : FieldType) (U : State) : Prop := (Cond.arrayOver (.array t)).before #[] U = true
theorem va_AOA.use {t : FieldType} {A : Array Value} {U : State} (h : va_AOA t U) : (Cond.arrayOver (.array t)).before A U = true := h

/-! ===== BEGIN new T[n][m]: the outer array a place, the inner ones among the pooled ===== -/
/-- f, but v at every address of l -/
def vr_up {α : Type} (f : Nat → α) (l : List Nat) (v : α) : Nat → α := fun a => if a ∈ l then v else f a
theorem vr_up_in {α : Type} {f : Nat → α} {l : List Nat} {v : α} {a : Nat} (h : a ∈ l) : vr_up f l v a = v := if_pos h
theorem vr_up_ne {α : Type} {f : Nat → α} {l : List Nat} {v : α} {a : Nat} (h : a ∉ l) : vr_up f l v a = f a := if_neg h
theorem vr_rows {L l : List Nat} {f : Nat → va_E} {e : va_E} (h : ∀ a, a ∈ l → a ∉ L) : va_pl L f ++ l.map (fun a => (a, e)) = va_pl (L ++ l) (vr_up f l e) := by
  unfold va_pl
  rw [List.map_append]
  congr 1
  · apply List.map_congr_left
    intro a ha
    rw [vr_up_ne (fun q => h a q ha)]
  · apply List.map_congr_left
    intro a ha
    rw [vr_up_in ha]
theorem vr_lay {X rows : va_W} {x : Nat × va_E} {pl : va_W} {D : va_G} {cl : List vw_C} {H : Heap} (hP : va_P D cl (((X ++ pl) ++ [x]) ++ rows) H) : va_P D cl ((X ++ [x]) ++ (pl ++ rows)) H := by
  rw [List.append_assoc (X ++ pl)] at hP
  have h := va_P.swap hP
  rw [← List.append_assoc X] at h
  have h2 := va_P.swap h
  rw [List.append_assoc (X ++ [x])] at h2
  exact h2
theorem vr_layD {X rows : va_W} {x : Nat × va_E} {pl : va_W} {A : Nat → Prop} (hD : va_D A (((X ++ pl) ++ [x]) ++ rows)) : va_D A ((X ++ [x]) ++ (pl ++ rows)) := by
  rw [List.append_assoc (X ++ pl)] at hD
  have h := va_D.swap hD
  rw [← List.append_assoc X] at h
  have h2 := va_D.swap h
  rw [List.append_assoc (X ++ [x])] at h2
  exact h2
theorem vr_outer (c : ClassId) (N h0 : Nat) : ∀ i : Nat, Jvm.Free.Multi.outerC c N h0 i = arrV c N (fun j => va_rf (if j < i then some (h0 + 1 + j) else none))
  | 0 => by
    show ({ cls := c, slots := Array.replicate N .null, vm := .none } : Cell) = _
    rw [arrV_new]
    refine congrArg (arrV c N) (funext fun j => ?_)
    simp [va_rf]
  | i + 1 => by
    show (Jvm.Free.Multi.outerC c N h0 i).setSlot i (.ref (h0 + 1 + i)) = _
    rw [vr_outer c N h0 i, arrV_store]
    refine congrArg (arrV c N) (funext fun j => ?_)
    by_cases e : j = i
    · subst e
      simp [updV, va_rf]
    · by_cases h : j < i
      · simp [updV, e, h, Nat.lt_succ_of_lt h]
      · simp [updV, e, h, show ¬ j < i + 1 by omega]
section VGM
variable {p : Program} {l : Launch} {e : Env} {R : Room} {s : State} {m : MethodId} {args : Array Value} {below : List Frame} {meth : Method} {c : Code} {H : Heap} {locs : List Loc} {cells slots : Nat} {Q : State → Prop}
variable {cc : ByteArray} {pc : Nat} {ls : Array Slot} {rest : List Value} {D : va_G} {cl : List vw_C} {A : Nat → Prop} {a : Nat} {tys : List (ClassId × FieldType)} {ws : va_W} {H0 : Heap}
theorem va_mna {X : va_W} {L : List Nat} {f : Nat → va_E} {cc : ByteArray} (hexec : p.tables.exec = Jvm.exec) (hb : c.code = cc) {own : String} {index : Nat} {ty : FieldType} {cy : ClassId} (hown : s.vm.findClass own = some m.cls) (hclink : (Cond.classLink own index ("[" ++ (FieldType.array ty).toString)).before args s = true) (hover : va_AOA ty s) (harr : (Cond.arrayClass ty).before args s = true) (hcy : s.vm.findClass (FieldType.array ty).toString = some cy)
    (hK : va_K D cl tys s) (hP : va_P D cl (X ++ va_pl L f) H) (hD : va_D A (X ++ va_pl L f)) (hS : va_S A H0 H locs) (hA : ∀ q, H0.size ≤ q → A q) {n k : Int32} {N' K' : Nat} {z : vp_A} (hn : ¬ n < 0) (hk : ¬ k < 0) (hN : n.toNatClampNeg = N') (hM : k.toNatClampNeg = K')
    (hb1 : N' * 4 ≤ 536870912) (hb2 : K' * componentBytes ty ≤ 536870912) (hb3 : K' ≤ 536870912) (hdf : fits ty (defaultValue ty) = true) (hdd : (defaultValue ty).isDefault = true) (hcells : cells + (1 + N') ≤ R.cells) (hslots : slots + (N' + N' * K') ≤ R.slots) (hz : ∀ c : ClassId, Jvm.Free.Multi.innerC c K' (defaultValue ty) = vp_cell c z) (hdg : decode cc pc = .ok (.multianewarray index 2, 4))
    (kk : ∀ (q : Nat) (r : Nat → Nat) (cA : ClassId) (H1 : Heap), (∀ i j : Nat, i < N' → j < N' → r i = r j → i = j) → (∀ i : Nat, i < N' → r i ∉ L) → va_K D cl (tys ++ [(cA, .array ty)]) s →
      va_P D cl ((X ++ [(q, .inl (cA, N', .inr (.inr (.inr (.inr (fun i => if i < N' then some (r i) else none))))))]) ++ va_pl (L ++ (List.range N').map r) (vr_up f ((List.range N').map r) (.inl (cy, z)))) H1 → va_D A ((X ++ [(q, .inl (cA, N', .inr (.inr (.inr (.inr (fun i => if i < N' then some (r i) else none))))))]) ++ va_pl (L ++ (List.range N').map r) (vr_up f ((List.range N').map r) (.inl (cy, z)))) → va_S A H0 H1 locs →
      W p l e R s m args below meth c H1 locs (cells + 1 + N') (slots + N' + N' * K') Q (F0 m (pc + 4) ls (.ref q :: rest))) : W p l e R s m args below meth c H locs cells slots Q (F0 m pc ls (.int k :: .int n :: rest)) := by
  subst hN
  subst hM
  intro T hT Xs
  obtain ⟨vm₁, cA, comp, -, fA, fC, hO, -, X', step⟩ := Xs.multianewarray2F hexec hown hclink (va_AOA.use hover) harr (g := F0 m pc ls (.int k :: .int n :: rest)) rfl (by rw [hb]; exact hdg) rfl hn hk hb1 hb2 hb3 hdf hdd hcells hslots
  have ec : some cy = some comp := hcy.symm.trans fC
  cases ec
  generalize hF : Jvm.Free.Multi.fill (T.setVm vm₁) cA cy n.toNatClampNeg k.toNatClampNeg (defaultValue ty) n.toNatClampNeg = F at X' step
  have hTh : (T.setVm vm₁).heap = H := hT
  obtain ⟨f1, f2, -, -⟩ := Jvm.Free.Multi.fill_facts (T.setVm vm₁) cA cy n.toNatClampNeg k.toNatClampNeg (defaultValue ty) n.toNatClampNeg
  rw [hF, hTh] at f1 f2
  have hold : ∀ x : Nat, x < H.size → F.heap[x]? = H[x]? := fun x hx => by
    have := Jvm.Free.Multi.fill_old (T.setVm vm₁) cA cy n.toNatClampNeg k.toNatClampNeg (defaultValue ty) (a := x) (by rw [hTh]; exact hx) n.toNatClampNeg
    rw [hF, hTh] at this
    exact this
  have hrow : ∀ j : Nat, j < n.toNatClampNeg → F.heap[H.size + 1 + j]? = some (vp_cell cy z) := fun j hj => by
    have := Jvm.Free.Multi.fill_inner (T.setVm vm₁) cA cy n.toNatClampNeg k.toNatClampNeg (defaultValue ty) n.toNatClampNeg j hj
    rw [hF, hTh, hz] at this
    exact this
  have hout : Jvm.Free.Multi.outerC cA n.toNatClampNeg H.size n.toNatClampNeg = vp_cell cA (n.toNatClampNeg, .inr (.inr (.inr (.inr (fun i => if i < n.toNatClampNeg then some (H.size + 1 + i) else none))))) := by
    rw [vp_cell_q]
    exact vr_outer cA n.toNatClampNeg H.size n.toNatClampNeg
  rw [hout] at f2
  have hlt : ∀ a, a ∈ L → a < H.size := fun a ha => by
    obtain ⟨k9, hk9⟩ := va_pl_get (X := X) (f := f) ha
    exact (hP k9 _ hk9).lt
  have hnl : ∀ i : Nat, i < n.toNatClampNeg → H.size + 1 + i ∉ L := fun i _ h => by
    have := hlt _ h
    omega
  have hnm : ∀ a, a ∈ (List.range n.toNatClampNeg).map (fun i => H.size + 1 + i) → a ∉ L := fun a ha h => by
    obtain ⟨i, -, rfl⟩ := List.mem_map.mp ha
    have := hlt _ h
    omega
  have hP0 : va_P D cl (X ++ va_pl L f) F.heap := hP.kept (fun k9 x hx => hold x.1 ((hP k9 x hx).lt))
  have hP1 : va_P D cl ((X ++ va_pl L f) ++ [(H.size, .inl (cA, n.toNatClampNeg, .inr (.inr (.inr (.inr (fun i => if i < n.toNatClampNeg then some (H.size + 1 + i) else none))))))]) F.heap := hP0.app (fun k9 x hx => by
    have h0 : k9 < 1 := (List.getElem?_eq_some_iff.mp hx).1
    rw [show k9 = 0 by omega] at hx
    cases hx
    exact f2)
  have hP2 : va_P D cl (((X ++ va_pl L f) ++ [(H.size, .inl (cA, n.toNatClampNeg, .inr (.inr (.inr (.inr (fun i => if i < n.toNatClampNeg then some (H.size + 1 + i) else none))))))]) ++ ((List.range n.toNatClampNeg).map (fun i => H.size + 1 + i)).map (fun a => (a, .inl (cy, z)))) F.heap := hP1.app (fun k9 x hx => by
    obtain ⟨a, ha, rfl⟩ := List.mem_map.mp (List.mem_of_getElem? hx)
    obtain ⟨i, hi, rfl⟩ := List.mem_map.mp ha
    exact hrow i (List.mem_range.mp hi))
  have hD2 : va_D A (((X ++ va_pl L f) ++ [(H.size, .inl (cA, n.toNatClampNeg, .inr (.inr (.inr (.inr (fun i => if i < n.toNatClampNeg then some (H.size + 1 + i) else none))))))]) ++ ((List.range n.toNatClampNeg).map (fun i => H.size + 1 + i)).map (fun a => (a, .inl (cy, z)))) := by
    have hD1 := hD.push (e := .inl (cA, n.toNatClampNeg, .inr (.inr (.inr (.inr (fun i => if i < n.toNatClampNeg then some (H.size + 1 + i) else none)))))) hP rfl (hA _ hS.1)
    generalize hW1 : (X ++ va_pl L f) ++ [(H.size, .inl (cA, n.toNatClampNeg, .inr (.inr (.inr (.inr (fun i => if i < n.toNatClampNeg then some (H.size + 1 + i) else none))))))] = W1 at hD1 hP1 ⊢
    have hle : ∀ (k9 : Nat) (x : Nat × va_E), W1[k9]? = some x → x.1 ≤ H.size := fun k9 x hx => by
      rw [← hW1] at hx
      by_cases hl : k9 < (X ++ va_pl L f).length
      · rw [List.getElem?_append_left hl] at hx
        exact Nat.le_of_lt ((hP k9 x hx).lt)
      · rw [List.getElem?_append_right (by omega)] at hx
        have h0 : k9 - (X ++ va_pl L f).length < 1 := (List.getElem?_eq_some_iff.mp hx).1
        rw [show k9 - (X ++ va_pl L f).length = 0 by omega] at hx
        cases hx
        exact Nat.le_refl _
    have hr : ∀ (k9 : Nat) (x : Nat × va_E), (((List.range n.toNatClampNeg).map (fun i => H.size + 1 + i)).map (fun a => ((a, .inl (cy, z)) : Nat × va_E)))[k9]? = some x → x.1 = H.size + 1 + k9 := fun k9 x hx => by
      rw [List.getElem?_map, List.getElem?_map] at hx
      by_cases h9 : k9 < n.toNatClampNeg
      · rw [List.getElem?_range h9] at hx
        cases hx
        rfl
      · have hn0 : (List.range n.toNatClampNeg)[k9]? = none := List.getElem?_eq_none (by rw [List.length_range]; omega)
        rw [hn0] at hx
        cases hx
    refine ⟨fun i j x y hi hj hxy => ?_, fun k9 x hx => ?_⟩
    · by_cases h1 : i < W1.length <;> by_cases h2 : j < W1.length
      · rw [List.getElem?_append_left h1] at hi
        rw [List.getElem?_append_left h2] at hj
        exact hD1.1 i j x y hi hj hxy
      · rw [List.getElem?_append_left h1] at hi
        rw [List.getElem?_append_right (by omega)] at hj
        have := hle _ _ hi
        have := hr _ _ hj
        omega
      · rw [List.getElem?_append_right (by omega)] at hi
        rw [List.getElem?_append_left h2] at hj
        have := hle _ _ hj
        have := hr _ _ hi
        omega
      · rw [List.getElem?_append_right (by omega)] at hi hj
        have := hr _ _ hi
        have := hr _ _ hj
        omega
    · by_cases h1 : k9 < W1.length
      · rw [List.getElem?_append_left h1] at hx
        exact hD1.2 k9 x hx
      · rw [List.getElem?_append_right (by omega)] at hx
        have := hr _ _ hx
        exact hA _ (by have := hS.1; omega)
  have hAr : ArrOfT s cA (.array ty) := fun N9 z9 => by
    obtain ⟨-, k9, hk9, cm9, hkk9⟩ := (hO 0 0 0).1
    exact ⟨(fun q hq => by cases hq), k9, hk9, cm9, hkk9⟩
  have hK2 : va_K D cl (tys ++ [(cA, .array ty)]) s := ⟨hK.1, fun k9 x hx => by
    by_cases hl : k9 < tys.length
    · rw [List.getElem?_append_left hl] at hx
      exact hK.2 k9 x hx
    · rw [List.getElem?_append_right (by omega)] at hx
      have h0 : k9 - tys.length < 1 := (List.getElem?_eq_some_iff.mp hx).1
      rw [show k9 - tys.length = 0 by omega] at hx
      cases hx
      exact ⟨hAr, fA⟩⟩
  obtain ⟨t, a1, b1⟩ := kk H.size (fun i => H.size + 1 + i) cA F.heap (fun i j _ _ h => by have h9 : H.size + 1 + i = H.size + 1 + j := h; omega) hnl hK2 (by rw [← vr_rows hnm]; exact vr_lay hP2) (by rw [← vr_rows hnm]; exact vr_layD hD2) ⟨by rw [f1]; have := hS.1; omega, fun x h1 h2 => (hold x (Nat.lt_of_lt_of_le h1 hS.1)).trans (hS.2.1 x h1 h2), hS.2.2⟩ F rfl X'
  refine ⟨t, step t ?_, b1⟩
  have e : T.heap.size = H.size := by rw [hT]
  rw [e]
  exact a1
end VGM
/-! ===== END ===== -/
def RX0 : String := "ChipBoards$Bins"
def TX0 : u_T := fun k => match k with
  | 0 => ("ChipBoards$Bins", "size", "I", false)
  | 1 => ("ChipBoards$Bins", "grams", "[I", true)
  | 2 => ("ChipBoards$Bins", "damp", "[I", true)
  | _ => ("ChipBoards$Bins", "used", "[Z", true)
def tyX0 : Nat → FieldType := fun k => match k with
  | 0 => .int
  | 1 => .array .int
  | 2 => .array .int
  | _ => .array .boolean
abbrev wsX00 : List Cond := u_ws RX0 TX0 4
theorem nmX0 : ∀ a, a < 4 → ∀ b, b < 4 → a ≠ b → (TX0 a).2.1 ≠ (TX0 b).2.1 := by decide +kernel
theorem tyX0_ok : ∀ k, k < 4 → parseFieldDescriptor (TX0 k).2.2.1 = some (tyX0 k) := by decide +kernel
abbrev cX0_init : ByteArray := prog_2_method_1_code
def yX0_init : MethodName := ⟨RX0, "<init>", "()V"⟩
abbrev cX0_add : ByteArray := prog_2_method_2_code
def yX0_add : MethodName := ⟨RX0, "add", "(IZ)I"⟩
abbrev cX0_has : ByteArray := prog_2_method_3_code
def yX0_has : MethodName := ⟨RX0, "has", "(I)Z"⟩
abbrev cX0_pour : ByteArray := prog_2_method_4_code
def yX0_pour : MethodName := ⟨RX0, "pour", "(II)I"⟩
abbrev cX0_canGive : ByteArray := prog_2_method_5_code
def yX0_canGive : MethodName := ⟨RX0, "canGive", "(IIII)Z"⟩
abbrev cX0_give : ByteArray := prog_2_method_6_code
def yX0_give : MethodName := ⟨RX0, "give", "(II)V"⟩
abbrev cX0_gramsOf : ByteArray := prog_2_method_7_code
def yX0_gramsOf : MethodName := ⟨RX0, "gramsOf", "(I)I"⟩
abbrev cX0_dampOf : ByteArray := prog_2_method_8_code
def yX0_dampOf : MethodName := ⟨RX0, "dampOf", "(I)I"⟩
abbrev cX0_usedPart : ByteArray := prog_2_method_9_code
def yX0_usedPart : MethodName := ⟨RX0, "usedPart", "(II)I"⟩
abbrev cX0_total : ByteArray := prog_2_method_10_code
def yX0_total : MethodName := ⟨RX0, "total", "()I"⟩
abbrev cX0_copyFrom : ByteArray := prog_2_method_11_code
def yX0_copyFrom : MethodName := ⟨RX0, "copyFrom", "(LChipBoards$Bins;)V"⟩
def RX1 : String := "ChipBoards$CutTable"
def TX1 : u_T := fun k => match k with
  | 0 => ("ChipBoards$CutTable", "worth", "[I", true)
  | 1 => ("ChipBoards$CutTable", "made", "[[I", true)
  | 2 => ("ChipBoards$CutTable", "known", "Z", false)
  | 3 => ("ChipBoards$CutTable", "bestWorth", "I", false)
  | 4 => ("ChipBoards$CutTable", "first", "I", false)
  | _ => ("ChipBoards$CutTable", "second", "I", false)
def tyX1 : Nat → FieldType := fun k => match k with
  | 0 => .array .int
  | 1 => .array (.array .int)
  | 2 => .boolean
  | 3 => .int
  | 4 => .int
  | _ => .int
abbrev wsX10 : List Cond := u_ws RX1 TX1 6
theorem nmX1 : ∀ a, a < 6 → ∀ b, b < 6 → a ≠ b → (TX1 a).2.1 ≠ (TX1 b).2.1 := by decide +kernel
theorem tyX1_ok : ∀ k, k < 6 → parseFieldDescriptor (TX1 k).2.2.1 = some (tyX1 k) := by decide +kernel
abbrev cX1_init : ByteArray := prog_3_method_1_code
def yX1_init : MethodName := ⟨RX1, "<init>", "()V"⟩
abbrev cX1_forget : ByteArray := prog_3_method_2_code
def yX1_forget : MethodName := ⟨RX1, "forget", "()V"⟩
abbrev cX1_prepare : ByteArray := prog_3_method_3_code
def yX1_prepare : MethodName := ⟨RX1, "prepare", "(LChipBoards$Sheets;I)V"⟩
abbrev cX1_worthOf : ByteArray := prog_3_method_4_code
def yX1_worthOf : MethodName := ⟨RX1, "worthOf", "(II)I"⟩
abbrev cX1_cutsOf : ByteArray := prog_3_method_5_code
def yX1_cutsOf : MethodName := ⟨RX1, "cutsOf", "(II)I"⟩
abbrev cX1_sheetsOf : ByteArray := prog_3_method_6_code
def yX1_sheetsOf : MethodName := ⟨RX1, "sheetsOf", "(III)I"⟩
abbrev cX1_place : ByteArray := prog_3_method_7_code
def yX1_place : MethodName := ⟨RX1, "place", "(II)I"⟩
abbrev cX1_choose : ByteArray := prog_3_method_8_code
def yX1_choose : MethodName := ⟨RX1, "choose", "(IILChipBoards$Sheets;I)V"⟩
abbrev cX1_isPlace : ByteArray := prog_3_method_9_code
def yX1_isPlace : MethodName := ⟨RX1, "isPlace", "(I)Z"⟩
abbrev cX1_tryCut : ByteArray := prog_3_method_10_code
def yX1_tryCut : MethodName := ⟨RX1, "tryCut", "(II)V"⟩
abbrev cX1_writeWhole : ByteArray := prog_3_method_11_code
def yX1_writeWhole : MethodName := ⟨RX1, "writeWhole", "(II)V"⟩
abbrev cX1_writeCut : ByteArray := prog_3_method_12_code
def yX1_writeCut : MethodName := ⟨RX1, "writeCut", "(I)V"⟩
def RX2 : String := "ChipBoards$Dryer"
def TX2 : u_T := fun k => match k with
  | 0 => ("ChipBoards$Dryer", "leads", "[I", true)
  | 1 => ("ChipBoards$Dryer", "feed", "[Z", true)
  | _ => ("ChipBoards$Dryer", "water", "[Z", true)
def tyX2 : Nat → FieldType := fun k => match k with
  | 0 => .array .int
  | 1 => .array .boolean
  | _ => .array .boolean
abbrev wsX20 : List Cond := u_ws RX2 TX2 3
theorem nmX2 : ∀ a, a < 3 → ∀ b, b < 3 → a ≠ b → (TX2 a).2.1 ≠ (TX2 b).2.1 := by decide +kernel
theorem tyX2_ok : ∀ k, k < 3 → parseFieldDescriptor (TX2 k).2.2.1 = some (tyX2 k) := by decide +kernel
abbrev cX2_init : ByteArray := prog_4_method_1_code
def yX2_init : MethodName := ⟨RX2, "<init>", "()V"⟩
abbrev cX2_isState : ByteArray := prog_4_method_2_code
def yX2_isState : MethodName := ⟨RX2, "isState", "(I)Z"⟩
abbrev cX2_isEvent : ByteArray := prog_4_method_3_code
def yX2_isEvent : MethodName := ⟨RX2, "isEvent", "(I)Z"⟩
abbrev cX2_lead : ByteArray := prog_4_method_4_code
def yX2_lead : MethodName := ⟨RX2, "lead", "(III)Z"⟩
abbrev cX2_equip : ByteArray := prog_4_method_5_code
def yX2_equip : MethodName := ⟨RX2, "equip", "(IZZ)Z"⟩
abbrev cX2_after : ByteArray := prog_4_method_6_code
def yX2_after : MethodName := ⟨RX2, "after", "(II)I"⟩
abbrev cX2_feeds : ByteArray := prog_4_method_7_code
def yX2_feeds : MethodName := ⟨RX2, "feeds", "(I)Z"⟩
abbrev cX2_waters : ByteArray := prog_4_method_8_code
def yX2_waters : MethodName := ⟨RX2, "waters", "(I)Z"⟩
abbrev cX2_copyFrom : ByteArray := prog_4_method_9_code
def yX2_copyFrom : MethodName := ⟨RX2, "copyFrom", "(LChipBoards$Dryer;)V"⟩
def RX3 : String := "ChipBoards$Heating"
def TX3 : u_T := fun k => match k with
  | 0 => ("ChipBoards$Heating", "heat", "[I", true)
  | 1 => ("ChipBoards$Heating", "before", "[I", true)
  | _ => ("ChipBoards$Heating", "cure", "[I", true)
def tyX3 : Nat → FieldType := fun k => match k with
  | 0 => .array .int
  | 1 => .array .int
  | _ => .array .int
abbrev wsX30 : List Cond := u_ws RX3 TX3 3
theorem nmX3 : ∀ a, a < 3 → ∀ b, b < 3 → a ≠ b → (TX3 a).2.1 ≠ (TX3 b).2.1 := by decide +kernel
theorem tyX3_ok : ∀ k, k < 3 → parseFieldDescriptor (TX3 k).2.2.1 = some (tyX3 k) := by decide +kernel
abbrev cX3_init : ByteArray := prog_5_method_1_code
def yX3_init : MethodName := ⟨RX3, "<init>", "()V"⟩
abbrev cX3_begin : ByteArray := prog_5_method_2_code
def yX3_begin : MethodName := ⟨RX3, "begin", "(I)V"⟩
abbrev cX3_tick : ByteArray := prog_5_method_3_code
def yX3_tick : MethodName := ⟨RX3, "tick", "()V"⟩
abbrev cX3_mayOpen : ByteArray := prog_5_method_4_code
def yX3_mayOpen : MethodName := ⟨RX3, "mayOpen", "(II)Z"⟩
abbrev cX3_heatOf : ByteArray := prog_5_method_5_code
def yX3_heatOf : MethodName := ⟨RX3, "heatOf", "(I)I"⟩
abbrev cX3_cureOf : ByteArray := prog_5_method_6_code
def yX3_cureOf : MethodName := ⟨RX3, "cureOf", "(I)I"⟩
abbrev cX3_steamOf : ByteArray := prog_5_method_7_code
def yX3_steamOf : MethodName := ⟨RX3, "steamOf", "(II)I"⟩
def RX4 : String := "ChipBoards$Lots"
def TX4 : u_T := fun k => match k with
  | 0 => ("ChipBoards$Lots", "size", "I", false)
  | _ => ("ChipBoards$Lots", "grams", "[I", true)
def tyX4 : Nat → FieldType := fun k => match k with
  | 0 => .int
  | _ => .array .int
abbrev wsX40 : List Cond := u_ws RX4 TX4 2
theorem nmX4 : ∀ a, a < 2 → ∀ b, b < 2 → a ≠ b → (TX4 a).2.1 ≠ (TX4 b).2.1 := by decide +kernel
theorem tyX4_ok : ∀ k, k < 2 → parseFieldDescriptor (TX4 k).2.2.1 = some (tyX4 k) := by decide +kernel
abbrev cX4_init : ByteArray := prog_6_method_1_code
def yX4_init : MethodName := ⟨RX4, "<init>", "()V"⟩
abbrev cX4_add : ByteArray := prog_6_method_2_code
def yX4_add : MethodName := ⟨RX4, "add", "(I)I"⟩
abbrev cX4_has : ByteArray := prog_6_method_3_code
def yX4_has : MethodName := ⟨RX4, "has", "(I)Z"⟩
abbrev cX4_gramsOf : ByteArray := prog_6_method_4_code
def yX4_gramsOf : MethodName := ⟨RX4, "gramsOf", "(I)I"⟩
abbrev cX4_total : ByteArray := prog_6_method_5_code
def yX4_total : MethodName := ⟨RX4, "total", "()I"⟩
abbrev cX4_draw : ByteArray := prog_6_method_6_code
def yX4_draw : MethodName := ⟨RX4, "draw", "(I)I"⟩
abbrev cX4_copyFrom : ByteArray := prog_6_method_7_code
def yX4_copyFrom : MethodName := ⟨RX4, "copyFrom", "(LChipBoards$Lots;)V"⟩
def RX5 : String := "ChipBoards$Mats"
def TX5 : u_T := fun k => match k with
  | 0 => ("ChipBoards$Mats", "size", "I", false)
  | _ => ("ChipBoards$Mats", "facts", "[I", true)
def tyX5 : Nat → FieldType := fun k => match k with
  | 0 => .int
  | _ => .array .int
abbrev wsX50 : List Cond := u_ws RX5 TX5 2
theorem nmX5 : ∀ a, a < 2 → ∀ b, b < 2 → a ≠ b → (TX5 a).2.1 ≠ (TX5 b).2.1 := by decide +kernel
theorem tyX5_ok : ∀ k, k < 2 → parseFieldDescriptor (TX5 k).2.2.1 = some (tyX5 k) := by decide +kernel
abbrev cX5_init : ByteArray := prog_7_method_1_code
def yX5_init : MethodName := ⟨RX5, "<init>", "()V"⟩
abbrev cX5_isFull : ByteArray := prog_7_method_2_code
def yX5_isFull : MethodName := ⟨RX5, "isFull", "()Z"⟩
abbrev cX5_add : ByteArray := prog_7_method_3_code
def yX5_add : MethodName := ⟨RX5, "add", "()I"⟩
abbrev cX5_has : ByteArray := prog_7_method_4_code
def yX5_has : MethodName := ⟨RX5, "has", "(I)Z"⟩
abbrev cX5_get : ByteArray := prog_7_method_5_code
def yX5_get : MethodName := ⟨RX5, "get", "(II)I"⟩
abbrev cX5_put : ByteArray := prog_7_method_6_code
def yX5_put : MethodName := ⟨RX5, "put", "(III)V"⟩
abbrev cX5_isPressed : ByteArray := prog_7_method_7_code
def yX5_isPressed : MethodName := ⟨RX5, "isPressed", "(I)Z"⟩
abbrev cX5_pressed : ByteArray := prog_7_method_8_code
def yX5_pressed : MethodName := ⟨RX5, "pressed", "()I"⟩
abbrev cX5_withLot : ByteArray := prog_7_method_9_code
def yX5_withLot : MethodName := ⟨RX5, "withLot", "(I)I"⟩
abbrev cX5_copyFrom : ByteArray := prog_7_method_10_code
def yX5_copyFrom : MethodName := ⟨RX5, "copyFrom", "(LChipBoards$Mats;)V"⟩
def RX6 : String := "ChipBoards$Plates"
def TX6 : u_T := fun k => match k with
  | 0 => ("ChipBoards$Plates", "size", "I", false)
  | _ => ("ChipBoards$Plates", "heat", "[I", true)
def tyX6 : Nat → FieldType := fun k => match k with
  | 0 => .int
  | _ => .array .int
abbrev wsX60 : List Cond := u_ws RX6 TX6 2
theorem nmX6 : ∀ a, a < 2 → ∀ b, b < 2 → a ≠ b → (TX6 a).2.1 ≠ (TX6 b).2.1 := by decide +kernel
theorem tyX6_ok : ∀ k, k < 2 → parseFieldDescriptor (TX6 k).2.2.1 = some (tyX6 k) := by decide +kernel
abbrev cX6_init : ByteArray := prog_8_method_1_code
def yX6_init : MethodName := ⟨RX6, "<init>", "()V"⟩
abbrev cX6_add : ByteArray := prog_8_method_2_code
def yX6_add : MethodName := ⟨RX6, "add", "(I)I"⟩
abbrev cX6_has : ByteArray := prog_8_method_3_code
def yX6_has : MethodName := ⟨RX6, "has", "(I)Z"⟩
abbrev cX6_heatOf : ByteArray := prog_8_method_4_code
def yX6_heatOf : MethodName := ⟨RX6, "heatOf", "(I)I"⟩
abbrev cX6_copyFrom : ByteArray := prog_8_method_5_code
def yX6_copyFrom : MethodName := ⟨RX6, "copyFrom", "(LChipBoards$Plates;)V"⟩
def RX7 : String := "ChipBoards$RowSearch"
def TX7 : u_T := fun k => match k with
  | 0 => ("ChipBoards$RowSearch", "seen", "[Z", true)
  | 1 => ("ChipBoards$RowSearch", "queue", "[I", true)
  | 2 => ("ChipBoards$RowSearch", "from", "[I", true)
  | 3 => ("ChipBoards$RowSearch", "by", "[I", true)
  | 4 => ("ChipBoards$RowSearch", "row", "[I", true)
  | _ => ("ChipBoards$RowSearch", "queued", "I", false)
def tyX7 : Nat → FieldType := fun k => match k with
  | 0 => .array .boolean
  | 1 => .array .int
  | 2 => .array .int
  | 3 => .array .int
  | 4 => .array .int
  | _ => .int
abbrev wsX70 : List Cond := u_ws RX7 TX7 6
theorem nmX7 : ∀ a, a < 6 → ∀ b, b < 6 → a ≠ b → (TX7 a).2.1 ≠ (TX7 b).2.1 := by decide +kernel
theorem tyX7_ok : ∀ k, k < 6 → parseFieldDescriptor (TX7 k).2.2.1 = some (tyX7 k) := by decide +kernel
abbrev cX7_init : ByteArray := prog_9_method_1_code
def yX7_init : MethodName := ⟨RX7, "<init>", "()V"⟩
abbrev cX7_find : ByteArray := prog_9_method_2_code
def yX7_find : MethodName := ⟨RX7, "find", "(LChipBoards$Dryer;)I"⟩
abbrev cX7_eventAt : ByteArray := prog_9_method_3_code
def yX7_eventAt : MethodName := ⟨RX7, "eventAt", "(I)I"⟩
abbrev cX7_dangerAfter : ByteArray := prog_9_method_4_code
def yX7_dangerAfter : MethodName := ⟨RX7, "dangerAfter", "(IIZ)I"⟩
abbrev cX7_reach : ByteArray := prog_9_method_5_code
def yX7_reach : MethodName := ⟨RX7, "reach", "(III)Z"⟩
abbrev cX7_writeRow : ByteArray := prog_9_method_6_code
def yX7_writeRow : MethodName := ⟨RX7, "writeRow", "(I)I"⟩
def RX8 : String := "ChipBoards$Sheets"
def TX8 : u_T := fun k => match k with
  | 0 => ("ChipBoards$Sheets", "size", "I", false)
  | 1 => ("ChipBoards$Sheets", "wide", "[I", true)
  | 2 => ("ChipBoards$Sheets", "high", "[I", true)
  | _ => ("ChipBoards$Sheets", "worth", "[I", true)
def tyX8 : Nat → FieldType := fun k => match k with
  | 0 => .int
  | 1 => .array .int
  | 2 => .array .int
  | _ => .array .int
abbrev wsX80 : List Cond := u_ws RX8 TX8 4
theorem nmX8 : ∀ a, a < 4 → ∀ b, b < 4 → a ≠ b → (TX8 a).2.1 ≠ (TX8 b).2.1 := by decide +kernel
theorem tyX8_ok : ∀ k, k < 4 → parseFieldDescriptor (TX8 k).2.2.1 = some (tyX8 k) := by decide +kernel
abbrev cX8_init : ByteArray := prog_10_method_1_code
def yX8_init : MethodName := ⟨RX8, "<init>", "()V"⟩
abbrev cX8_hasSides : ByteArray := prog_10_method_2_code
def yX8_hasSides : MethodName := ⟨RX8, "hasSides", "(II)Z"⟩
abbrev cX8_add : ByteArray := prog_10_method_3_code
def yX8_add : MethodName := ⟨RX8, "add", "(III)I"⟩
abbrev cX8_has : ByteArray := prog_10_method_4_code
def yX8_has : MethodName := ⟨RX8, "has", "(I)Z"⟩
abbrev cX8_worthOf : ByteArray := prog_10_method_5_code
def yX8_worthOf : MethodName := ⟨RX8, "worthOf", "(I)I"⟩
abbrev cX8_dearestIn : ByteArray := prog_10_method_6_code
def yX8_dearestIn : MethodName := ⟨RX8, "dearestIn", "(II)I"⟩
abbrev cX8_copyFrom : ByteArray := prog_10_method_7_code
def yX8_copyFrom : MethodName := ⟨RX8, "copyFrom", "(LChipBoards$Sheets;)V"⟩
def RX9 : String := "ChipBoards$Told"
def TX9 : u_T := fun k => match k with
  | 0 => ("ChipBoards$Told", "bins", "LChipBoards$Bins;", true)
  | 1 => ("ChipBoards$Told", "lots", "LChipBoards$Lots;", true)
  | 2 => ("ChipBoards$Told", "mats", "LChipBoards$Mats;", true)
  | 3 => ("ChipBoards$Told", "plates", "LChipBoards$Plates;", true)
  | 4 => ("ChipBoards$Told", "dryer", "LChipBoards$Dryer;", true)
  | 5 => ("ChipBoards$Told", "sheets", "LChipBoards$Sheets;", true)
  | 6 => ("ChipBoards$Told", "glue", "I", false)
  | 7 => ("ChipBoards$Told", "limit", "I", false)
  | 8 => ("ChipBoards$Told", "need", "I", false)
  | _ => ("ChipBoards$Told", "saw", "I", false)
def tyX9 : Nat → FieldType := fun k => match k with
  | 0 => .object "ChipBoards$Bins"
  | 1 => .object "ChipBoards$Lots"
  | 2 => .object "ChipBoards$Mats"
  | 3 => .object "ChipBoards$Plates"
  | 4 => .object "ChipBoards$Dryer"
  | 5 => .object "ChipBoards$Sheets"
  | 6 => .int
  | 7 => .int
  | 8 => .int
  | _ => .int
abbrev wsX90 : List Cond := u_ws RX9 TX9 10
theorem nmX9 : ∀ a, a < 10 → ∀ b, b < 10 → a ≠ b → (TX9 a).2.1 ≠ (TX9 b).2.1 := by decide +kernel
theorem tyX9_ok : ∀ k, k < 10 → parseFieldDescriptor (TX9 k).2.2.1 = some (tyX9 k) := by decide +kernel
abbrev cX9_init : ByteArray := prog_11_method_1_code
def yX9_init : MethodName := ⟨RX9, "<init>", "()V"⟩
abbrev cX9_setRule : ByteArray := prog_11_method_2_code
def yX9_setRule : MethodName := ⟨RX9, "setRule", "(II)Z"⟩
abbrev cX9_copyFrom : ByteArray := prog_11_method_3_code
def yX9_copyFrom : MethodName := ⟨RX9, "copyFrom", "(LChipBoards$Told;)V"⟩
def RX10 : String := "ChipBoards"
def TX10 : u_T := fun k => match k with
  | 0 => ("ChipBoards", "now", "LChipBoards$Told;", true)
  | 1 => ("ChipBoards", "images", "[LChipBoards$Told;", true)
  | 2 => ("ChipBoards", "heating", "LChipBoards$Heating;", true)
  | 3 => ("ChipBoards", "search", "LChipBoards$RowSearch;", true)
  | _ => ("ChipBoards", "table", "LChipBoards$CutTable;", true)
def tyX10 : Nat → FieldType := fun k => match k with
  | 0 => .object "ChipBoards$Told"
  | 1 => .array (.object "ChipBoards$Told")
  | 2 => .object "ChipBoards$Heating"
  | 3 => .object "ChipBoards$RowSearch"
  | _ => .object "ChipBoards$CutTable"
abbrev wsX100 : List Cond := u_ws RX10 TX10 5
theorem nmX10 : ∀ a, a < 5 → ∀ b, b < 5 → a ≠ b → (TX10 a).2.1 ≠ (TX10 b).2.1 := by decide +kernel
theorem tyX10_ok : ∀ k, k < 5 → parseFieldDescriptor (TX10 k).2.2.1 = some (tyX10 k) := by decide +kernel
abbrev cX10_init : ByteArray := prog_1_method_1_code
def yX10_init : MethodName := ⟨RX10, "<init>", "()V"⟩
abbrev cX10_bin : ByteArray := prog_1_method_2_code
def yX10_bin : MethodName := ⟨RX10, "bin", "(IZ)I"⟩
abbrev cX10_fill : ByteArray := prog_1_method_3_code
def yX10_fill : MethodName := ⟨RX10, "fill", "(II)I"⟩
abbrev cX10_lot : ByteArray := prog_1_method_4_code
def yX10_lot : MethodName := ⟨RX10, "lot", "(I)I"⟩
abbrev cX10_rule : ByteArray := prog_1_method_5_code
def yX10_rule : MethodName := ⟨RX10, "rule", "(II)Z"⟩
abbrev cX10_lay : ByteArray := prog_1_method_6_code
def yX10_lay : MethodName := ⟨RX10, "lay", "(III)I"⟩
abbrev cX10_mat : ByteArray := prog_1_method_7_code
def yX10_mat : MethodName := ⟨RX10, "mat", "(II)I"⟩
abbrev cX10_recall : ByteArray := prog_1_method_8_code
def yX10_recall : MethodName := ⟨RX10, "recall", "(I)I"⟩
abbrev cX10_plate : ByteArray := prog_1_method_9_code
def yX10_plate : MethodName := ⟨RX10, "plate", "(I)I"⟩
abbrev cX10_time : ByteArray := prog_1_method_10_code
def yX10_time : MethodName := ⟨RX10, "time", "(II)I"⟩
abbrev cX10_fastest : ByteArray := prog_1_method_11_code
def yX10_fastest : MethodName := ⟨RX10, "fastest", "(I)I"⟩
abbrev cX10_press : ByteArray := prog_1_method_12_code
def yX10_press : MethodName := ⟨RX10, "press", "(II)Z"⟩
abbrev cX10_shell : ByteArray := prog_1_method_13_code
def yX10_shell : MethodName := ⟨RX10, "shell", "(IIIII)I"⟩
abbrev cX10_link : ByteArray := prog_1_method_14_code
def yX10_link : MethodName := ⟨RX10, "link", "(III)Z"⟩
abbrev cX10_state : ByteArray := prog_1_method_15_code
def yX10_state : MethodName := ⟨RX10, "state", "(IZZ)Z"⟩
abbrev cX10_badRow : ByteArray := prog_1_method_16_code
def yX10_badRow : MethodName := ⟨RX10, "badRow", "()I"⟩
abbrev cX10_bad : ByteArray := prog_1_method_17_code
def yX10_bad : MethodName := ⟨RX10, "bad", "(I)I"⟩
abbrev cX10_sheet : ByteArray := prog_1_method_18_code
def yX10_sheet : MethodName := ⟨RX10, "sheet", "(III)I"⟩
abbrev cX10_best : ByteArray := prog_1_method_19_code
def yX10_best : MethodName := ⟨RX10, "best", "(II)I"⟩
abbrev cX10_cuts : ByteArray := prog_1_method_20_code
def yX10_cuts : MethodName := ⟨RX10, "cuts", "(III)I"⟩
abbrev cX10_count : ByteArray := prog_1_method_21_code
def yX10_count : MethodName := ⟨RX10, "count", "(I)I"⟩
abbrev cX10_image : ByteArray := prog_1_method_22_code
def yX10_image : MethodName := ⟨RX10, "image", "(I)Z"⟩
abbrev cX10_again : ByteArray := prog_1_method_23_code
def yX10_again : MethodName := ⟨RX10, "again", "(I)Z"⟩
abbrev cX10_timeOf : ByteArray := prog_1_method_24_code
def yX10_timeOf : MethodName := ⟨RX10, "timeOf", "(II)I"⟩
def RX11 : String := "ChipBoardsModel"
def TX11 : u_T := fun k => match k with
  | 0 => ("ChipBoardsModel", "all", "[I", true)
  | 1 => ("ChipBoardsModel", "has", "[Z", true)
  | 2 => ("ChipBoardsModel", "heat", "[I", true)
  | 3 => ("ChipBoardsModel", "before", "[I", true)
  | 4 => ("ChipBoardsModel", "cure", "[I", true)
  | 5 => ("ChipBoardsModel", "far", "[I", true)
  | 6 => ("ChipBoardsModel", "worth", "[I", true)
  | 7 => ("ChipBoardsModel", "way", "[I", true)
  | _ => ("ChipBoardsModel", "many", "[I", true)
def tyX11 : Nat → FieldType := fun k => match k with
  | 0 => .array .int
  | 1 => .array .boolean
  | 2 => .array .int
  | 3 => .array .int
  | 4 => .array .int
  | 5 => .array .int
  | 6 => .array .int
  | 7 => .array .int
  | _ => .array .int
abbrev wsX110 : List Cond := u_ws RX11 TX11 9
theorem nmX11 : ∀ a, a < 9 → ∀ b, b < 9 → a ≠ b → (TX11 a).2.1 ≠ (TX11 b).2.1 := by decide +kernel
theorem tyX11_ok : ∀ k, k < 9 → parseFieldDescriptor (TX11 k).2.2.1 = some (tyX11 k) := by decide +kernel
abbrev cX11_init : ByteArray := prog_13_method_1_code
def yX11_init : MethodName := ⟨RX11, "<init>", "()V"⟩
abbrev cX11_isIn : ByteArray := prog_13_method_2_code
def yX11_isIn : MethodName := ⟨RX11, "isIn", "(III)Z"⟩
abbrev cX11_isOf : ByteArray := prog_13_method_3_code
def yX11_isOf : MethodName := ⟨RX11, "isOf", "(II)Z"⟩
abbrev cX11_bin : ByteArray := prog_13_method_4_code
def yX11_bin : MethodName := ⟨RX11, "bin", "(IZ)I"⟩
abbrev cX11_fill : ByteArray := prog_13_method_5_code
def yX11_fill : MethodName := ⟨RX11, "fill", "(II)I"⟩
abbrev cX11_lot : ByteArray := prog_13_method_6_code
def yX11_lot : MethodName := ⟨RX11, "lot", "(I)I"⟩
abbrev cX11_leastOf : ByteArray := prog_13_method_7_code
def yX11_leastOf : MethodName := ⟨RX11, "leastOf", "(I)I"⟩
abbrev cX11_mostOf : ByteArray := prog_13_method_8_code
def yX11_mostOf : MethodName := ⟨RX11, "mostOf", "(I)I"⟩
abbrev cX11_rule : ByteArray := prog_13_method_9_code
def yX11_rule : MethodName := ⟨RX11, "rule", "(II)Z"⟩
abbrev cX11_glueLeft : ByteArray := prog_13_method_10_code
def yX11_glueLeft : MethodName := ⟨RX11, "glueLeft", "()I"⟩
abbrev cX11_takes : ByteArray := prog_13_method_11_code
def yX11_takes : MethodName := ⟨RX11, "takes", "(I)I"⟩
abbrev cX11_lay : ByteArray := prog_13_method_12_code
def yX11_lay : MethodName := ⟨RX11, "lay", "(III)I"⟩
abbrev cX11_mat : ByteArray := prog_13_method_13_code
def yX11_mat : MethodName := ⟨RX11, "mat", "(II)I"⟩
abbrev cX11_recall : ByteArray := prog_13_method_14_code
def yX11_recall : MethodName := ⟨RX11, "recall", "(I)I"⟩
abbrev cX11_plate : ByteArray := prog_13_method_15_code
def yX11_plate : MethodName := ⟨RX11, "plate", "(I)I"⟩
abbrev cX11_cold : ByteArray := prog_13_method_16_code
def yX11_cold : MethodName := ⟨RX11, "cold", "()V"⟩
abbrev cX11_tick : ByteArray := prog_13_method_17_code
def yX11_tick : MethodName := ⟨RX11, "tick", "(I)V"⟩
abbrev cX11_steam : ByteArray := prog_13_method_18_code
def yX11_steam : MethodName := ⟨RX11, "steam", "(II)I"⟩
abbrev cX11_mayOpen : ByteArray := prog_13_method_19_code
def yX11_mayOpen : MethodName := ⟨RX11, "mayOpen", "(I)Z"⟩
abbrev cX11_time : ByteArray := prog_13_method_20_code
def yX11_time : MethodName := ⟨RX11, "time", "(II)I"⟩
abbrev cX11_fastest : ByteArray := prog_13_method_21_code
def yX11_fastest : MethodName := ⟨RX11, "fastest", "(I)I"⟩
abbrev cX11_press : ByteArray := prog_13_method_22_code
def yX11_press : MethodName := ⟨RX11, "press", "(II)Z"⟩
abbrev cX11_shell : ByteArray := prog_13_method_23_code
def yX11_shell : MethodName := ⟨RX11, "shell", "(IIIII)I"⟩
abbrev cX11_link : ByteArray := prog_13_method_24_code
def yX11_link : MethodName := ⟨RX11, "link", "(III)Z"⟩
abbrev cX11_state : ByteArray := prog_13_method_25_code
def yX11_state : MethodName := ⟨RX11, "state", "(IZZ)Z"⟩
abbrev cX11_next : ByteArray := prog_13_method_26_code
def yX11_next : MethodName := ⟨RX11, "next", "(II)I"⟩
abbrev cX11_isBad : ByteArray := prog_13_method_27_code
def yX11_isBad : MethodName := ⟨RX11, "isBad", "(I)Z"⟩
abbrev cX11_onward : ByteArray := prog_13_method_28_code
def yX11_onward : MethodName := ⟨RX11, "onward", "(II)I"⟩
abbrev cX11_distances : ByteArray := prog_13_method_29_code
def yX11_distances : MethodName := ⟨RX11, "distances", "()V"⟩
abbrev cX11_badRow : ByteArray := prog_13_method_30_code
def yX11_badRow : MethodName := ⟨RX11, "badRow", "()I"⟩
abbrev cX11_bad : ByteArray := prog_13_method_31_code
def yX11_bad : MethodName := ⟨RX11, "bad", "(I)I"⟩
abbrev cX11_sheet : ByteArray := prog_13_method_32_code
def yX11_sheet : MethodName := ⟨RX11, "sheet", "(III)I"⟩
abbrev cX11_board : ByteArray := prog_13_method_33_code
def yX11_board : MethodName := ⟨RX11, "board", "(II)I"⟩
abbrev cX11_tries : ByteArray := prog_13_method_34_code
def yX11_tries : MethodName := ⟨RX11, "tries", "(III)V"⟩
abbrev cX11_settles : ByteArray := prog_13_method_35_code
def yX11_settles : MethodName := ⟨RX11, "settles", "(II)V"⟩
abbrev cX11_reckons : ByteArray := prog_13_method_36_code
def yX11_reckons : MethodName := ⟨RX11, "reckons", "(II)V"⟩
abbrev cX11_isBoard : ByteArray := prog_13_method_37_code
def yX11_isBoard : MethodName := ⟨RX11, "isBoard", "(II)Z"⟩
abbrev cX11_best : ByteArray := prog_13_method_38_code
def yX11_best : MethodName := ⟨RX11, "best", "(II)I"⟩
abbrev cX11_comes : ByteArray := prog_13_method_39_code
def yX11_comes : MethodName := ⟨RX11, "comes", "(III)I"⟩
abbrev cX11_cuts : ByteArray := prog_13_method_40_code
def yX11_cuts : MethodName := ⟨RX11, "cuts", "(III)I"⟩
abbrev cX11_count : ByteArray := prog_13_method_41_code
def yX11_count : MethodName := ⟨RX11, "count", "(I)I"⟩
abbrev cX11_image : ByteArray := prog_13_method_42_code
def yX11_image : MethodName := ⟨RX11, "image", "(I)Z"⟩
abbrev cX11_again : ByteArray := prog_13_method_43_code
def yX11_again : MethodName := ⟨RX11, "again", "(I)Z"⟩
def RJ9 : String := "java/lang/Math"
def TJ9 : u_T := fun k => match k with
  | _ => ("", "", "", false)
def tyJ9 : Nat → FieldType := fun k => match k with
  | _ => .int
abbrev wsJ90 : List Cond := u_ws RJ9 TJ9 0
theorem nmJ9 : ∀ a, a < 0 → ∀ b, b < 0 → a ≠ b → (TJ9 a).2.1 ≠ (TJ9 b).2.1 := by decide +kernel
theorem tyJ9_ok : ∀ k, k < 0 → parseFieldDescriptor (TJ9 k).2.2.1 = some (tyJ9 k) := by decide +kernel
abbrev cJ9_max_7cf53 : ByteArray := prog_14_method_65_code
def yJ9_max_7cf53 : MethodName := ⟨RJ9, "max", "(II)I"⟩
abbrev cJ9_min_7cf53 : ByteArray := prog_14_method_69_code
def yJ9_min_7cf53 : MethodName := ⟨RJ9, "min", "(II)I"⟩
def RJ10 : String := "java/lang/System"
def TJ10 : u_T := fun k => match k with
  | _ => ("", "", "", false)
def tyJ10 : Nat → FieldType := fun k => match k with
  | _ => .int
abbrev wsJ100 : List Cond := u_ws RJ10 TJ10 0
theorem nmJ10 : ∀ a, a < 0 → ∀ b, b < 0 → a ≠ b → (TJ10 a).2.1 ≠ (TJ10 b).2.1 := by decide +kernel
theorem tyJ10_ok : ∀ k, k < 0 → parseFieldDescriptor (TJ10 k).2.2.1 = some (tyJ10 k) := by decide +kernel
def RL : String := "ChipBoardsLaw"
abbrev cL_law : ByteArray := code
def yL_law : MethodName := ⟨RL, "law", "([I)Z"⟩
abbrev vwCl : List vw_C := [(RX0, TX0, 4), (RX1, TX1, 6), (RX2, TX2, 3), (RX3, TX3, 3), (RX4, TX4, 2), (RX5, TX5, 2), (RX6, TX6, 2), (RX7, TX7, 6), (RX8, TX8, 4), (RX9, TX9, 10), (RX10, TX10, 5), (RX11, TX11, 9)]
def wsA : List Cond := lw_tbl.filter goodWord
theorem wsA_1 {w : Cond} (i : Nat) (h : tables_1_1[i]? = some w) (hg : goodWord w = true) : w ∈ wsA := List.mem_filter.mpr ⟨List.mem_append_right _ (List.mem_append_left _ (List.mem_of_getElem? h)), hg⟩
theorem wsA_2 {w : Cond} (i : Nat) (h : tables_1_2[i]? = some w) (hg : goodWord w = true) : w ∈ wsA := List.mem_filter.mpr ⟨List.mem_append_right _ (List.mem_append_right _ (List.mem_append_left _ (List.mem_of_getElem? h))), hg⟩
theorem wsA_3 {w : Cond} (i : Nat) (h : tables_1_3[i]? = some w) (hg : goodWord w = true) : w ∈ wsA := List.mem_filter.mpr ⟨List.mem_append_right _ (List.mem_append_right _ (List.mem_append_right _ (List.mem_append_left _ (List.mem_of_getElem? h)))), hg⟩
theorem wsA_4 {w : Cond} (i : Nat) (h : tables_1_4[i]? = some w) (hg : goodWord w = true) : w ∈ wsA := List.mem_filter.mpr ⟨List.mem_append_right _ (List.mem_append_right _ (List.mem_append_right _ (List.mem_append_right _ (List.mem_of_getElem? h)))), hg⟩
theorem wsA_p {y : MethodName} (i : Nat) {n : Nat} (h : lw_privs[i]? = some (y, n)) (hg : goodWord (Cond.selects y.cls y y) = true) : Cond.selects y.cls y y ∈ wsA := List.mem_filter.mpr ⟨List.mem_append_left _ (List.mem_map.mpr ⟨(y, n), List.mem_of_getElem? h, rfl⟩), hg⟩
end
section
theorem dX0_init_0 : decode cX0_init 0 = .ok (.aload_n 0, 1) := by decide +kernel
theorem dX0_init_1 : decode cX0_init 1 = .ok (.invokespecial 3, 3) := by decide +kernel
theorem dX0_init_4 : decode cX0_init 4 = .ok (.aload_n 0, 1) := by decide +kernel
theorem dX0_init_5 : decode cX0_init 5 = .ok (.iconst 0, 1) := by decide +kernel
theorem dX0_init_6 : decode cX0_init 6 = .ok (.putfield 9, 3) := by decide +kernel
theorem dX0_init_9 : decode cX0_init 9 = .ok (.aload_n 0, 1) := by decide +kernel
theorem dX0_init_10 : decode cX0_init 10 = .ok (.bipush 6, 2) := by decide +kernel
theorem dX0_init_12 : decode cX0_init 12 = .ok (.newarray .int, 2) := by decide +kernel
theorem dX0_init_14 : decode cX0_init 14 = .ok (.putfield 15, 3) := by decide +kernel
theorem dX0_init_17 : decode cX0_init 17 = .ok (.aload_n 0, 1) := by decide +kernel
theorem dX0_init_18 : decode cX0_init 18 = .ok (.bipush 6, 2) := by decide +kernel
theorem dX0_init_20 : decode cX0_init 20 = .ok (.newarray .int, 2) := by decide +kernel
theorem dX0_init_22 : decode cX0_init 22 = .ok (.putfield 19, 3) := by decide +kernel
theorem dX0_init_25 : decode cX0_init 25 = .ok (.aload_n 0, 1) := by decide +kernel
theorem dX0_init_26 : decode cX0_init 26 = .ok (.bipush 6, 2) := by decide +kernel
theorem dX0_init_28 : decode cX0_init 28 = .ok (.newarray .boolean, 2) := by decide +kernel
theorem dX0_init_30 : decode cX0_init 30 = .ok (.putfield 22, 3) := by decide +kernel
theorem dX0_init_33 : decode cX0_init 33 = .ok (.return_, 1) := by decide +kernel
theorem dX0_add_0 : decode cX0_add 0 = .ok (.aload_n 0, 1) := by decide +kernel
theorem dX0_add_1 : decode cX0_add 1 = .ok (.getfield 9, 3) := by decide +kernel
theorem dX0_add_4 : decode cX0_add 4 = .ok (.bipush 6, 2) := by decide +kernel
theorem dX0_add_6 : decode cX0_add 6 = .ok (.if_icmp .ge 13, 3) := by decide +kernel
theorem dX0_add_9 : decode cX0_add 9 = .ok (.iload_n 1, 1) := by decide +kernel
theorem dX0_add_10 : decode cX0_add 10 = .ok (.ifCond .lt 9, 3) := by decide +kernel
theorem dX0_add_13 : decode cX0_add 13 = .ok (.iload_n 1, 1) := by decide +kernel
theorem dX0_add_14 : decode cX0_add 14 = .ok (.bipush 20, 2) := by decide +kernel
theorem dX0_add_16 : decode cX0_add 16 = .ok (.if_icmp .le 5, 3) := by decide +kernel
theorem dX0_add_19 : decode cX0_add 19 = .ok (.iconst (-1), 1) := by decide +kernel
theorem dX0_add_20 : decode cX0_add 20 = .ok (.ireturn, 1) := by decide +kernel
theorem dX0_add_21 : decode cX0_add 21 = .ok (.aload_n 0, 1) := by decide +kernel
theorem dX0_add_22 : decode cX0_add 22 = .ok (.getfield 15, 3) := by decide +kernel
theorem dX0_add_25 : decode cX0_add 25 = .ok (.aload_n 0, 1) := by decide +kernel
theorem dX0_add_26 : decode cX0_add 26 = .ok (.getfield 9, 3) := by decide +kernel
theorem dX0_add_29 : decode cX0_add 29 = .ok (.iconst 0, 1) := by decide +kernel
theorem dX0_add_30 : decode cX0_add 30 = .ok (.iastore, 1) := by decide +kernel
theorem dX0_add_31 : decode cX0_add 31 = .ok (.aload_n 0, 1) := by decide +kernel
theorem dX0_add_32 : decode cX0_add 32 = .ok (.getfield 19, 3) := by decide +kernel
theorem dX0_add_35 : decode cX0_add 35 = .ok (.aload_n 0, 1) := by decide +kernel
theorem dX0_add_36 : decode cX0_add 36 = .ok (.getfield 9, 3) := by decide +kernel
theorem dX0_add_39 : decode cX0_add 39 = .ok (.iload_n 1, 1) := by decide +kernel
theorem dX0_add_40 : decode cX0_add 40 = .ok (.iastore, 1) := by decide +kernel
theorem dX0_add_41 : decode cX0_add 41 = .ok (.aload_n 0, 1) := by decide +kernel
theorem dX0_add_42 : decode cX0_add 42 = .ok (.getfield 22, 3) := by decide +kernel
theorem dX0_add_45 : decode cX0_add 45 = .ok (.aload_n 0, 1) := by decide +kernel
theorem dX0_add_46 : decode cX0_add 46 = .ok (.getfield 9, 3) := by decide +kernel
theorem dX0_add_49 : decode cX0_add 49 = .ok (.iload_n 2, 1) := by decide +kernel
theorem dX0_add_50 : decode cX0_add 50 = .ok (.bastore, 1) := by decide +kernel
theorem dX0_add_51 : decode cX0_add 51 = .ok (.aload_n 0, 1) := by decide +kernel
theorem dX0_add_52 : decode cX0_add 52 = .ok (.dup, 1) := by decide +kernel
theorem dX0_add_53 : decode cX0_add 53 = .ok (.getfield 9, 3) := by decide +kernel
theorem dX0_add_56 : decode cX0_add 56 = .ok (.iconst 1, 1) := by decide +kernel
theorem dX0_add_57 : decode cX0_add 57 = .ok (.iadd, 1) := by decide +kernel
theorem dX0_add_58 : decode cX0_add 58 = .ok (.putfield 9, 3) := by decide +kernel
theorem dX0_add_61 : decode cX0_add 61 = .ok (.aload_n 0, 1) := by decide +kernel
theorem dX0_add_62 : decode cX0_add 62 = .ok (.getfield 9, 3) := by decide +kernel
theorem dX0_add_65 : decode cX0_add 65 = .ok (.iconst 1, 1) := by decide +kernel
theorem dX0_add_66 : decode cX0_add 66 = .ok (.isub, 1) := by decide +kernel
theorem dX0_add_67 : decode cX0_add 67 = .ok (.ireturn, 1) := by decide +kernel
theorem dX0_has_0 : decode cX0_has 0 = .ok (.iload_n 1, 1) := by decide +kernel
theorem dX0_has_1 : decode cX0_has 1 = .ok (.ifCond .lt 15, 3) := by decide +kernel
theorem dX0_has_4 : decode cX0_has 4 = .ok (.iload_n 1, 1) := by decide +kernel
theorem dX0_has_5 : decode cX0_has 5 = .ok (.aload_n 0, 1) := by decide +kernel
theorem dX0_has_6 : decode cX0_has 6 = .ok (.getfield 9, 3) := by decide +kernel
theorem dX0_has_9 : decode cX0_has 9 = .ok (.if_icmp .ge 7, 3) := by decide +kernel
theorem dX0_has_12 : decode cX0_has 12 = .ok (.iconst 1, 1) := by decide +kernel
theorem dX0_has_13 : decode cX0_has 13 = .ok (.goto 4, 3) := by decide +kernel
theorem dX0_has_16 : decode cX0_has 16 = .ok (.iconst 0, 1) := by decide +kernel
theorem dX0_has_17 : decode cX0_has 17 = .ok (.ireturn, 1) := by decide +kernel
theorem dX0_pour_0 : decode cX0_pour 0 = .ok (.aload_n 0, 1) := by decide +kernel
theorem dX0_pour_1 : decode cX0_pour 1 = .ok (.iload_n 1, 1) := by decide +kernel
theorem dX0_pour_2 : decode cX0_pour 2 = .ok (.invokevirtual 26, 3) := by decide +kernel
theorem dX0_pour_5 : decode cX0_pour 5 = .ok (.ifCond .eq 20, 3) := by decide +kernel
theorem dX0_pour_8 : decode cX0_pour 8 = .ok (.iload_n 2, 1) := by decide +kernel
theorem dX0_pour_9 : decode cX0_pour 9 = .ok (.ifCond .le 16, 3) := by decide +kernel
theorem dX0_pour_12 : decode cX0_pour 12 = .ok (.iload_n 2, 1) := by decide +kernel
theorem dX0_pour_13 : decode cX0_pour 13 = .ok (.ldc 30, 2) := by decide +kernel
theorem dX0_pour_15 : decode cX0_pour 15 = .ok (.aload_n 0, 1) := by decide +kernel
theorem dX0_pour_16 : decode cX0_pour 16 = .ok (.getfield 15, 3) := by decide +kernel
theorem dX0_pour_19 : decode cX0_pour 19 = .ok (.iload_n 1, 1) := by decide +kernel
theorem dX0_pour_20 : decode cX0_pour 20 = .ok (.iaload, 1) := by decide +kernel
theorem dX0_pour_21 : decode cX0_pour 21 = .ok (.isub, 1) := by decide +kernel
theorem dX0_pour_22 : decode cX0_pour 22 = .ok (.if_icmp .le 5, 3) := by decide +kernel
theorem dX0_pour_25 : decode cX0_pour 25 = .ok (.iconst (-1), 1) := by decide +kernel
theorem dX0_pour_26 : decode cX0_pour 26 = .ok (.ireturn, 1) := by decide +kernel
theorem dX0_pour_27 : decode cX0_pour 27 = .ok (.aload_n 0, 1) := by decide +kernel
theorem dX0_pour_28 : decode cX0_pour 28 = .ok (.getfield 15, 3) := by decide +kernel
theorem dX0_pour_31 : decode cX0_pour 31 = .ok (.iload_n 1, 1) := by decide +kernel
theorem dX0_pour_32 : decode cX0_pour 32 = .ok (.dup2, 1) := by decide +kernel
theorem dX0_pour_33 : decode cX0_pour 33 = .ok (.iaload, 1) := by decide +kernel
theorem dX0_pour_34 : decode cX0_pour 34 = .ok (.iload_n 2, 1) := by decide +kernel
theorem dX0_pour_35 : decode cX0_pour 35 = .ok (.iadd, 1) := by decide +kernel
theorem dX0_pour_36 : decode cX0_pour 36 = .ok (.iastore, 1) := by decide +kernel
theorem dX0_pour_37 : decode cX0_pour 37 = .ok (.aload_n 0, 1) := by decide +kernel
theorem dX0_pour_38 : decode cX0_pour 38 = .ok (.getfield 15, 3) := by decide +kernel
theorem dX0_pour_41 : decode cX0_pour 41 = .ok (.iload_n 1, 1) := by decide +kernel
theorem dX0_pour_42 : decode cX0_pour 42 = .ok (.iaload, 1) := by decide +kernel
theorem dX0_pour_43 : decode cX0_pour 43 = .ok (.ireturn, 1) := by decide +kernel
theorem dX0_canGive_0 : decode cX0_canGive 0 = .ok (.iload_n 1, 1) := by decide +kernel
theorem dX0_canGive_1 : decode cX0_canGive 1 = .ok (.iload_n 3, 1) := by decide +kernel
theorem dX0_canGive_2 : decode cX0_canGive 2 = .ok (.if_icmp .ne 21, 3) := by decide +kernel
theorem dX0_canGive_5 : decode cX0_canGive 5 = .ok (.aload_n 0, 1) := by decide +kernel
theorem dX0_canGive_6 : decode cX0_canGive 6 = .ok (.iload_n 1, 1) := by decide +kernel
theorem dX0_canGive_7 : decode cX0_canGive 7 = .ok (.invokevirtual 31, 3) := by decide +kernel
theorem dX0_canGive_10 : decode cX0_canGive 10 = .ok (.iload_n 2, 1) := by decide +kernel
theorem dX0_canGive_11 : decode cX0_canGive 11 = .ok (.iload 4, 2) := by decide +kernel
theorem dX0_canGive_13 : decode cX0_canGive 13 = .ok (.iadd, 1) := by decide +kernel
theorem dX0_canGive_14 : decode cX0_canGive 14 = .ok (.if_icmp .lt 7, 3) := by decide +kernel
theorem dX0_canGive_17 : decode cX0_canGive 17 = .ok (.iconst 1, 1) := by decide +kernel
theorem dX0_canGive_18 : decode cX0_canGive 18 = .ok (.goto 4, 3) := by decide +kernel
theorem dX0_canGive_21 : decode cX0_canGive 21 = .ok (.iconst 0, 1) := by decide +kernel
theorem dX0_canGive_22 : decode cX0_canGive 22 = .ok (.ireturn, 1) := by decide +kernel
theorem dX0_canGive_23 : decode cX0_canGive 23 = .ok (.aload_n 0, 1) := by decide +kernel
theorem dX0_canGive_24 : decode cX0_canGive 24 = .ok (.iload_n 1, 1) := by decide +kernel
theorem dX0_canGive_25 : decode cX0_canGive 25 = .ok (.invokevirtual 31, 3) := by decide +kernel
theorem dX0_canGive_28 : decode cX0_canGive 28 = .ok (.iload_n 2, 1) := by decide +kernel
theorem dX0_canGive_29 : decode cX0_canGive 29 = .ok (.if_icmp .lt 17, 3) := by decide +kernel
theorem dX0_canGive_32 : decode cX0_canGive 32 = .ok (.aload_n 0, 1) := by decide +kernel
theorem dX0_canGive_33 : decode cX0_canGive 33 = .ok (.iload_n 3, 1) := by decide +kernel
theorem dX0_canGive_34 : decode cX0_canGive 34 = .ok (.invokevirtual 31, 3) := by decide +kernel
theorem dX0_canGive_37 : decode cX0_canGive 37 = .ok (.iload 4, 2) := by decide +kernel
theorem dX0_canGive_39 : decode cX0_canGive 39 = .ok (.if_icmp .lt 7, 3) := by decide +kernel
theorem dX0_canGive_42 : decode cX0_canGive 42 = .ok (.iconst 1, 1) := by decide +kernel
theorem dX0_canGive_43 : decode cX0_canGive 43 = .ok (.goto 4, 3) := by decide +kernel
theorem dX0_canGive_46 : decode cX0_canGive 46 = .ok (.iconst 0, 1) := by decide +kernel
theorem dX0_canGive_47 : decode cX0_canGive 47 = .ok (.ireturn, 1) := by decide +kernel
theorem dX0_give_0 : decode cX0_give 0 = .ok (.aload_n 0, 1) := by decide +kernel
theorem dX0_give_1 : decode cX0_give 1 = .ok (.iload_n 1, 1) := by decide +kernel
theorem dX0_give_2 : decode cX0_give 2 = .ok (.invokevirtual 26, 3) := by decide +kernel
theorem dX0_give_5 : decode cX0_give 5 = .ok (.ifCond .eq 13, 3) := by decide +kernel
theorem dX0_give_8 : decode cX0_give 8 = .ok (.aload_n 0, 1) := by decide +kernel
theorem dX0_give_9 : decode cX0_give 9 = .ok (.getfield 15, 3) := by decide +kernel
theorem dX0_give_12 : decode cX0_give 12 = .ok (.iload_n 1, 1) := by decide +kernel
theorem dX0_give_13 : decode cX0_give 13 = .ok (.dup2, 1) := by decide +kernel
theorem dX0_give_14 : decode cX0_give 14 = .ok (.iaload, 1) := by decide +kernel
theorem dX0_give_15 : decode cX0_give 15 = .ok (.iload_n 2, 1) := by decide +kernel
theorem dX0_give_16 : decode cX0_give 16 = .ok (.isub, 1) := by decide +kernel
theorem dX0_give_17 : decode cX0_give 17 = .ok (.iastore, 1) := by decide +kernel
theorem dX0_give_18 : decode cX0_give 18 = .ok (.return_, 1) := by decide +kernel
theorem dX0_gramsOf_0 : decode cX0_gramsOf 0 = .ok (.aload_n 0, 1) := by decide +kernel
theorem dX0_gramsOf_1 : decode cX0_gramsOf 1 = .ok (.iload_n 1, 1) := by decide +kernel
theorem dX0_gramsOf_2 : decode cX0_gramsOf 2 = .ok (.invokevirtual 26, 3) := by decide +kernel
theorem dX0_gramsOf_5 : decode cX0_gramsOf 5 = .ok (.ifCond .eq 12, 3) := by decide +kernel
theorem dX0_gramsOf_8 : decode cX0_gramsOf 8 = .ok (.aload_n 0, 1) := by decide +kernel
theorem dX0_gramsOf_9 : decode cX0_gramsOf 9 = .ok (.getfield 15, 3) := by decide +kernel
theorem dX0_gramsOf_12 : decode cX0_gramsOf 12 = .ok (.iload_n 1, 1) := by decide +kernel
theorem dX0_gramsOf_13 : decode cX0_gramsOf 13 = .ok (.iaload, 1) := by decide +kernel
theorem dX0_gramsOf_14 : decode cX0_gramsOf 14 = .ok (.goto 4, 3) := by decide +kernel
theorem dX0_gramsOf_17 : decode cX0_gramsOf 17 = .ok (.iconst (-1), 1) := by decide +kernel
theorem dX0_gramsOf_18 : decode cX0_gramsOf 18 = .ok (.ireturn, 1) := by decide +kernel
theorem dX0_dampOf_0 : decode cX0_dampOf 0 = .ok (.aload_n 0, 1) := by decide +kernel
theorem dX0_dampOf_1 : decode cX0_dampOf 1 = .ok (.iload_n 1, 1) := by decide +kernel
theorem dX0_dampOf_2 : decode cX0_dampOf 2 = .ok (.invokevirtual 26, 3) := by decide +kernel
theorem dX0_dampOf_5 : decode cX0_dampOf 5 = .ok (.ifCond .eq 12, 3) := by decide +kernel
theorem dX0_dampOf_8 : decode cX0_dampOf 8 = .ok (.aload_n 0, 1) := by decide +kernel
theorem dX0_dampOf_9 : decode cX0_dampOf 9 = .ok (.getfield 19, 3) := by decide +kernel
theorem dX0_dampOf_12 : decode cX0_dampOf 12 = .ok (.iload_n 1, 1) := by decide +kernel
theorem dX0_dampOf_13 : decode cX0_dampOf 13 = .ok (.iaload, 1) := by decide +kernel
theorem dX0_dampOf_14 : decode cX0_dampOf 14 = .ok (.goto 4, 3) := by decide +kernel
theorem dX0_dampOf_17 : decode cX0_dampOf 17 = .ok (.iconst (-1), 1) := by decide +kernel
theorem dX0_dampOf_18 : decode cX0_dampOf 18 = .ok (.ireturn, 1) := by decide +kernel
theorem dX0_usedPart_0 : decode cX0_usedPart 0 = .ok (.aload_n 0, 1) := by decide +kernel
theorem dX0_usedPart_1 : decode cX0_usedPart 1 = .ok (.iload_n 1, 1) := by decide +kernel
theorem dX0_usedPart_2 : decode cX0_usedPart 2 = .ok (.invokevirtual 26, 3) := by decide +kernel
theorem dX0_usedPart_5 : decode cX0_usedPart 5 = .ok (.ifCond .eq 16, 3) := by decide +kernel
theorem dX0_usedPart_8 : decode cX0_usedPart 8 = .ok (.aload_n 0, 1) := by decide +kernel
theorem dX0_usedPart_9 : decode cX0_usedPart 9 = .ok (.getfield 22, 3) := by decide +kernel
theorem dX0_usedPart_12 : decode cX0_usedPart 12 = .ok (.iload_n 1, 1) := by decide +kernel
theorem dX0_usedPart_13 : decode cX0_usedPart 13 = .ok (.baload, 1) := by decide +kernel
theorem dX0_usedPart_14 : decode cX0_usedPart 14 = .ok (.ifCond .eq 7, 3) := by decide +kernel
theorem dX0_usedPart_17 : decode cX0_usedPart 17 = .ok (.iload_n 2, 1) := by decide +kernel
theorem dX0_usedPart_18 : decode cX0_usedPart 18 = .ok (.goto 4, 3) := by decide +kernel
theorem dX0_usedPart_21 : decode cX0_usedPart 21 = .ok (.iconst 0, 1) := by decide +kernel
theorem dX0_usedPart_22 : decode cX0_usedPart 22 = .ok (.ireturn, 1) := by decide +kernel
theorem dX0_total_0 : decode cX0_total 0 = .ok (.iconst 0, 1) := by decide +kernel
theorem dX0_total_1 : decode cX0_total 1 = .ok (.istore_n 1, 1) := by decide +kernel
theorem dX0_total_2 : decode cX0_total 2 = .ok (.iconst 0, 1) := by decide +kernel
theorem dX0_total_3 : decode cX0_total 3 = .ok (.istore_n 2, 1) := by decide +kernel
theorem dX0_total_4 : decode cX0_total 4 = .ok (.iload_n 2, 1) := by decide +kernel
theorem dX0_total_5 : decode cX0_total 5 = .ok (.aload_n 0, 1) := by decide +kernel
theorem dX0_total_6 : decode cX0_total 6 = .ok (.getfield 9, 3) := by decide +kernel
theorem dX0_total_9 : decode cX0_total 9 = .ok (.if_icmp .ge 24, 3) := by decide +kernel
theorem dX0_total_12 : decode cX0_total 12 = .ok (.iload_n 2, 1) := by decide +kernel
theorem dX0_total_13 : decode cX0_total 13 = .ok (.bipush 6, 2) := by decide +kernel
theorem dX0_total_15 : decode cX0_total 15 = .ok (.if_icmp .ge 18, 3) := by decide +kernel
theorem dX0_total_18 : decode cX0_total 18 = .ok (.iload_n 1, 1) := by decide +kernel
theorem dX0_total_19 : decode cX0_total 19 = .ok (.aload_n 0, 1) := by decide +kernel
theorem dX0_total_20 : decode cX0_total 20 = .ok (.getfield 15, 3) := by decide +kernel
theorem dX0_total_23 : decode cX0_total 23 = .ok (.iload_n 2, 1) := by decide +kernel
theorem dX0_total_24 : decode cX0_total 24 = .ok (.iaload, 1) := by decide +kernel
theorem dX0_total_25 : decode cX0_total 25 = .ok (.iadd, 1) := by decide +kernel
theorem dX0_total_26 : decode cX0_total 26 = .ok (.istore_n 1, 1) := by decide +kernel
theorem dX0_total_27 : decode cX0_total 27 = .ok (.iinc 2 1, 3) := by decide +kernel
theorem dX0_total_30 : decode cX0_total 30 = .ok (.goto (-26), 3) := by decide +kernel
theorem dX0_total_33 : decode cX0_total 33 = .ok (.iload_n 1, 1) := by decide +kernel
theorem dX0_total_34 : decode cX0_total 34 = .ok (.ireturn, 1) := by decide +kernel
theorem dX0_copyFrom_0 : decode cX0_copyFrom 0 = .ok (.aload_n 0, 1) := by decide +kernel
theorem dX0_copyFrom_1 : decode cX0_copyFrom 1 = .ok (.aload_n 1, 1) := by decide +kernel
theorem dX0_copyFrom_2 : decode cX0_copyFrom 2 = .ok (.getfield 9, 3) := by decide +kernel
theorem dX0_copyFrom_5 : decode cX0_copyFrom 5 = .ok (.putfield 9, 3) := by decide +kernel
theorem dX0_copyFrom_8 : decode cX0_copyFrom 8 = .ok (.iconst 0, 1) := by decide +kernel
theorem dX0_copyFrom_9 : decode cX0_copyFrom 9 = .ok (.istore_n 2, 1) := by decide +kernel
theorem dX0_copyFrom_10 : decode cX0_copyFrom 10 = .ok (.iload_n 2, 1) := by decide +kernel
theorem dX0_copyFrom_11 : decode cX0_copyFrom 11 = .ok (.bipush 6, 2) := by decide +kernel
theorem dX0_copyFrom_13 : decode cX0_copyFrom 13 = .ok (.if_icmp .ge 45, 3) := by decide +kernel
theorem dX0_copyFrom_16 : decode cX0_copyFrom 16 = .ok (.aload_n 0, 1) := by decide +kernel
theorem dX0_copyFrom_17 : decode cX0_copyFrom 17 = .ok (.getfield 15, 3) := by decide +kernel
theorem dX0_copyFrom_20 : decode cX0_copyFrom 20 = .ok (.iload_n 2, 1) := by decide +kernel
theorem dX0_copyFrom_21 : decode cX0_copyFrom 21 = .ok (.aload_n 1, 1) := by decide +kernel
theorem dX0_copyFrom_22 : decode cX0_copyFrom 22 = .ok (.getfield 15, 3) := by decide +kernel
theorem dX0_copyFrom_25 : decode cX0_copyFrom 25 = .ok (.iload_n 2, 1) := by decide +kernel
theorem dX0_copyFrom_26 : decode cX0_copyFrom 26 = .ok (.iaload, 1) := by decide +kernel
theorem dX0_copyFrom_27 : decode cX0_copyFrom 27 = .ok (.iastore, 1) := by decide +kernel
theorem dX0_copyFrom_28 : decode cX0_copyFrom 28 = .ok (.aload_n 0, 1) := by decide +kernel
theorem dX0_copyFrom_29 : decode cX0_copyFrom 29 = .ok (.getfield 19, 3) := by decide +kernel
theorem dX0_copyFrom_32 : decode cX0_copyFrom 32 = .ok (.iload_n 2, 1) := by decide +kernel
theorem dX0_copyFrom_33 : decode cX0_copyFrom 33 = .ok (.aload_n 1, 1) := by decide +kernel
theorem dX0_copyFrom_34 : decode cX0_copyFrom 34 = .ok (.getfield 19, 3) := by decide +kernel
theorem dX0_copyFrom_37 : decode cX0_copyFrom 37 = .ok (.iload_n 2, 1) := by decide +kernel
theorem dX0_copyFrom_38 : decode cX0_copyFrom 38 = .ok (.iaload, 1) := by decide +kernel
theorem dX0_copyFrom_39 : decode cX0_copyFrom 39 = .ok (.iastore, 1) := by decide +kernel
theorem dX0_copyFrom_40 : decode cX0_copyFrom 40 = .ok (.aload_n 0, 1) := by decide +kernel
theorem dX0_copyFrom_41 : decode cX0_copyFrom 41 = .ok (.getfield 22, 3) := by decide +kernel
theorem dX0_copyFrom_44 : decode cX0_copyFrom 44 = .ok (.iload_n 2, 1) := by decide +kernel
theorem dX0_copyFrom_45 : decode cX0_copyFrom 45 = .ok (.aload_n 1, 1) := by decide +kernel
theorem dX0_copyFrom_46 : decode cX0_copyFrom 46 = .ok (.getfield 22, 3) := by decide +kernel
theorem dX0_copyFrom_49 : decode cX0_copyFrom 49 = .ok (.iload_n 2, 1) := by decide +kernel
theorem dX0_copyFrom_50 : decode cX0_copyFrom 50 = .ok (.baload, 1) := by decide +kernel
theorem dX0_copyFrom_51 : decode cX0_copyFrom 51 = .ok (.bastore, 1) := by decide +kernel
theorem dX0_copyFrom_52 : decode cX0_copyFrom 52 = .ok (.iinc 2 1, 3) := by decide +kernel
theorem dX0_copyFrom_55 : decode cX0_copyFrom 55 = .ok (.goto (-45), 3) := by decide +kernel
theorem dX0_copyFrom_58 : decode cX0_copyFrom 58 = .ok (.return_, 1) := by decide +kernel
theorem dX1_init_0 : decode cX1_init 0 = .ok (.aload_n 0, 1) := by decide +kernel
theorem dX1_init_1 : decode cX1_init 1 = .ok (.invokespecial 7, 3) := by decide +kernel
theorem dX1_init_4 : decode cX1_init 4 = .ok (.aload_n 0, 1) := by decide +kernel
theorem dX1_init_5 : decode cX1_init 5 = .ok (.sipush 625, 3) := by decide +kernel
theorem dX1_init_8 : decode cX1_init 8 = .ok (.newarray .int, 2) := by decide +kernel
theorem dX1_init_10 : decode cX1_init 10 = .ok (.putfield 13, 3) := by decide +kernel
theorem dX1_init_13 : decode cX1_init 13 = .ok (.aload_n 0, 1) := by decide +kernel
theorem dX1_init_14 : decode cX1_init 14 = .ok (.bipush 7, 2) := by decide +kernel
theorem dX1_init_16 : decode cX1_init 16 = .ok (.sipush 625, 3) := by decide +kernel
theorem dX1_init_19 : decode cX1_init 19 = .ok (.multianewarray 17 2, 4) := by decide +kernel
theorem dX1_init_23 : decode cX1_init 23 = .ok (.putfield 19, 3) := by decide +kernel
theorem dX1_init_26 : decode cX1_init 26 = .ok (.aload_n 0, 1) := by decide +kernel
theorem dX1_init_27 : decode cX1_init 27 = .ok (.iconst 0, 1) := by decide +kernel
theorem dX1_init_28 : decode cX1_init 28 = .ok (.putfield 22, 3) := by decide +kernel
theorem dX1_init_31 : decode cX1_init 31 = .ok (.aload_n 0, 1) := by decide +kernel
theorem dX1_init_32 : decode cX1_init 32 = .ok (.iconst 0, 1) := by decide +kernel
theorem dX1_init_33 : decode cX1_init 33 = .ok (.putfield 26, 3) := by decide +kernel
theorem dX1_init_36 : decode cX1_init 36 = .ok (.aload_n 0, 1) := by decide +kernel
theorem dX1_init_37 : decode cX1_init 37 = .ok (.iconst (-1), 1) := by decide +kernel
theorem dX1_init_38 : decode cX1_init 38 = .ok (.putfield 30, 3) := by decide +kernel
theorem dX1_init_41 : decode cX1_init 41 = .ok (.aload_n 0, 1) := by decide +kernel
theorem dX1_init_42 : decode cX1_init 42 = .ok (.iconst (-1), 1) := by decide +kernel
theorem dX1_init_43 : decode cX1_init 43 = .ok (.putfield 33, 3) := by decide +kernel
theorem dX1_init_46 : decode cX1_init 46 = .ok (.return_, 1) := by decide +kernel
theorem dX1_forget_0 : decode cX1_forget 0 = .ok (.aload_n 0, 1) := by decide +kernel
theorem dX1_forget_1 : decode cX1_forget 1 = .ok (.iconst 0, 1) := by decide +kernel
theorem dX1_forget_2 : decode cX1_forget 2 = .ok (.putfield 22, 3) := by decide +kernel
theorem dX1_forget_5 : decode cX1_forget 5 = .ok (.return_, 1) := by decide +kernel
theorem dX1_prepare_0 : decode cX1_prepare 0 = .ok (.aload_n 0, 1) := by decide +kernel
theorem dX1_prepare_1 : decode cX1_prepare 1 = .ok (.getfield 22, 3) := by decide +kernel
theorem dX1_prepare_4 : decode cX1_prepare 4 = .ok (.ifCond .eq 4, 3) := by decide +kernel
theorem dX1_prepare_7 : decode cX1_prepare 7 = .ok (.return_, 1) := by decide +kernel
theorem dX1_prepare_8 : decode cX1_prepare 8 = .ok (.iconst 1, 1) := by decide +kernel
theorem dX1_prepare_9 : decode cX1_prepare 9 = .ok (.istore_n 3, 1) := by decide +kernel
theorem dX1_prepare_10 : decode cX1_prepare 10 = .ok (.iload_n 3, 1) := by decide +kernel
theorem dX1_prepare_11 : decode cX1_prepare 11 = .ok (.bipush 25, 2) := by decide +kernel
theorem dX1_prepare_13 : decode cX1_prepare 13 = .ok (.if_icmp .ge 34, 3) := by decide +kernel
theorem dX1_prepare_16 : decode cX1_prepare 16 = .ok (.iconst 1, 1) := by decide +kernel
theorem dX1_prepare_17 : decode cX1_prepare 17 = .ok (.istore 4, 2) := by decide +kernel
theorem dX1_prepare_19 : decode cX1_prepare 19 = .ok (.iload 4, 2) := by decide +kernel
theorem dX1_prepare_21 : decode cX1_prepare 21 = .ok (.bipush 25, 2) := by decide +kernel
theorem dX1_prepare_23 : decode cX1_prepare 23 = .ok (.if_icmp .ge 18, 3) := by decide +kernel
theorem dX1_prepare_26 : decode cX1_prepare 26 = .ok (.aload_n 0, 1) := by decide +kernel
theorem dX1_prepare_27 : decode cX1_prepare 27 = .ok (.iload_n 3, 1) := by decide +kernel
theorem dX1_prepare_28 : decode cX1_prepare 28 = .ok (.iload 4, 2) := by decide +kernel
theorem dX1_prepare_30 : decode cX1_prepare 30 = .ok (.aload_n 1, 1) := by decide +kernel
theorem dX1_prepare_31 : decode cX1_prepare 31 = .ok (.iload_n 2, 1) := by decide +kernel
theorem dX1_prepare_32 : decode cX1_prepare 32 = .ok (.invokevirtual 36, 3) := by decide +kernel
theorem dX1_prepare_35 : decode cX1_prepare 35 = .ok (.iinc 4 1, 3) := by decide +kernel
theorem dX1_prepare_38 : decode cX1_prepare 38 = .ok (.goto (-19), 3) := by decide +kernel
theorem dX1_prepare_41 : decode cX1_prepare 41 = .ok (.iinc 3 1, 3) := by decide +kernel
theorem dX1_prepare_44 : decode cX1_prepare 44 = .ok (.goto (-34), 3) := by decide +kernel
theorem dX1_prepare_47 : decode cX1_prepare 47 = .ok (.aload_n 0, 1) := by decide +kernel
theorem dX1_prepare_48 : decode cX1_prepare 48 = .ok (.iconst 1, 1) := by decide +kernel
theorem dX1_prepare_49 : decode cX1_prepare 49 = .ok (.putfield 22, 3) := by decide +kernel
theorem dX1_prepare_52 : decode cX1_prepare 52 = .ok (.return_, 1) := by decide +kernel
theorem dX1_worthOf_0 : decode cX1_worthOf 0 = .ok (.iload_n 1, 1) := by decide +kernel
theorem dX1_worthOf_1 : decode cX1_worthOf 1 = .ok (.iload_n 2, 1) := by decide +kernel
theorem dX1_worthOf_2 : decode cX1_worthOf 2 = .ok (.invokestatic 40, 3) := by decide +kernel
theorem dX1_worthOf_5 : decode cX1_worthOf 5 = .ok (.ifCond .eq 16, 3) := by decide +kernel
theorem dX1_worthOf_8 : decode cX1_worthOf 8 = .ok (.aload_n 0, 1) := by decide +kernel
theorem dX1_worthOf_9 : decode cX1_worthOf 9 = .ok (.getfield 13, 3) := by decide +kernel
theorem dX1_worthOf_12 : decode cX1_worthOf 12 = .ok (.iload_n 1, 1) := by decide +kernel
theorem dX1_worthOf_13 : decode cX1_worthOf 13 = .ok (.iload_n 2, 1) := by decide +kernel
theorem dX1_worthOf_14 : decode cX1_worthOf 14 = .ok (.invokestatic 44, 3) := by decide +kernel
theorem dX1_worthOf_17 : decode cX1_worthOf 17 = .ok (.iaload, 1) := by decide +kernel
theorem dX1_worthOf_18 : decode cX1_worthOf 18 = .ok (.goto 4, 3) := by decide +kernel
theorem dX1_worthOf_21 : decode cX1_worthOf 21 = .ok (.iconst (-1), 1) := by decide +kernel
theorem dX1_worthOf_22 : decode cX1_worthOf 22 = .ok (.ireturn, 1) := by decide +kernel
theorem dX1_cutsOf_0 : decode cX1_cutsOf 0 = .ok (.iload_n 1, 1) := by decide +kernel
theorem dX1_cutsOf_1 : decode cX1_cutsOf 1 = .ok (.iload_n 2, 1) := by decide +kernel
theorem dX1_cutsOf_2 : decode cX1_cutsOf 2 = .ok (.invokestatic 40, 3) := by decide +kernel
theorem dX1_cutsOf_5 : decode cX1_cutsOf 5 = .ok (.ifCond .eq 19, 3) := by decide +kernel
theorem dX1_cutsOf_8 : decode cX1_cutsOf 8 = .ok (.aload_n 0, 1) := by decide +kernel
theorem dX1_cutsOf_9 : decode cX1_cutsOf 9 = .ok (.getfield 19, 3) := by decide +kernel
theorem dX1_cutsOf_12 : decode cX1_cutsOf 12 = .ok (.bipush 6, 2) := by decide +kernel
theorem dX1_cutsOf_14 : decode cX1_cutsOf 14 = .ok (.aaload, 1) := by decide +kernel
theorem dX1_cutsOf_15 : decode cX1_cutsOf 15 = .ok (.iload_n 1, 1) := by decide +kernel
theorem dX1_cutsOf_16 : decode cX1_cutsOf 16 = .ok (.iload_n 2, 1) := by decide +kernel
theorem dX1_cutsOf_17 : decode cX1_cutsOf 17 = .ok (.invokestatic 44, 3) := by decide +kernel
theorem dX1_cutsOf_20 : decode cX1_cutsOf 20 = .ok (.iaload, 1) := by decide +kernel
theorem dX1_cutsOf_21 : decode cX1_cutsOf 21 = .ok (.goto 4, 3) := by decide +kernel
theorem dX1_cutsOf_24 : decode cX1_cutsOf 24 = .ok (.iconst (-1), 1) := by decide +kernel
theorem dX1_cutsOf_25 : decode cX1_cutsOf 25 = .ok (.ireturn, 1) := by decide +kernel
theorem dX1_sheetsOf_0 : decode cX1_sheetsOf 0 = .ok (.iload_n 3, 1) := by decide +kernel
theorem dX1_sheetsOf_1 : decode cX1_sheetsOf 1 = .ok (.ifCond .lt 13, 3) := by decide +kernel
theorem dX1_sheetsOf_4 : decode cX1_sheetsOf 4 = .ok (.iload_n 3, 1) := by decide +kernel
theorem dX1_sheetsOf_5 : decode cX1_sheetsOf 5 = .ok (.bipush 6, 2) := by decide +kernel
theorem dX1_sheetsOf_7 : decode cX1_sheetsOf 7 = .ok (.if_icmp .ge 7, 3) := by decide +kernel
theorem dX1_sheetsOf_10 : decode cX1_sheetsOf 10 = .ok (.iconst 1, 1) := by decide +kernel
theorem dX1_sheetsOf_11 : decode cX1_sheetsOf 11 = .ok (.goto 4, 3) := by decide +kernel
theorem dX1_sheetsOf_14 : decode cX1_sheetsOf 14 = .ok (.iconst 0, 1) := by decide +kernel
theorem dX1_sheetsOf_15 : decode cX1_sheetsOf 15 = .ok (.istore 4, 2) := by decide +kernel
theorem dX1_sheetsOf_17 : decode cX1_sheetsOf 17 = .ok (.iload 4, 2) := by decide +kernel
theorem dX1_sheetsOf_19 : decode cX1_sheetsOf 19 = .ok (.ifCond .eq 26, 3) := by decide +kernel
theorem dX1_sheetsOf_22 : decode cX1_sheetsOf 22 = .ok (.iload_n 1, 1) := by decide +kernel
theorem dX1_sheetsOf_23 : decode cX1_sheetsOf 23 = .ok (.iload_n 2, 1) := by decide +kernel
theorem dX1_sheetsOf_24 : decode cX1_sheetsOf 24 = .ok (.invokestatic 40, 3) := by decide +kernel
theorem dX1_sheetsOf_27 : decode cX1_sheetsOf 27 = .ok (.ifCond .eq 18, 3) := by decide +kernel
theorem dX1_sheetsOf_30 : decode cX1_sheetsOf 30 = .ok (.aload_n 0, 1) := by decide +kernel
theorem dX1_sheetsOf_31 : decode cX1_sheetsOf 31 = .ok (.getfield 19, 3) := by decide +kernel
theorem dX1_sheetsOf_34 : decode cX1_sheetsOf 34 = .ok (.iload_n 3, 1) := by decide +kernel
theorem dX1_sheetsOf_35 : decode cX1_sheetsOf 35 = .ok (.aaload, 1) := by decide +kernel
theorem dX1_sheetsOf_36 : decode cX1_sheetsOf 36 = .ok (.iload_n 1, 1) := by decide +kernel
theorem dX1_sheetsOf_37 : decode cX1_sheetsOf 37 = .ok (.iload_n 2, 1) := by decide +kernel
theorem dX1_sheetsOf_38 : decode cX1_sheetsOf 38 = .ok (.invokestatic 44, 3) := by decide +kernel
theorem dX1_sheetsOf_41 : decode cX1_sheetsOf 41 = .ok (.iaload, 1) := by decide +kernel
theorem dX1_sheetsOf_42 : decode cX1_sheetsOf 42 = .ok (.goto 4, 3) := by decide +kernel
theorem dX1_sheetsOf_45 : decode cX1_sheetsOf 45 = .ok (.iconst (-1), 1) := by decide +kernel
theorem dX1_sheetsOf_46 : decode cX1_sheetsOf 46 = .ok (.ireturn, 1) := by decide +kernel
theorem dX1_place_0 : decode cX1_place 0 = .ok (.iload_n 0, 1) := by decide +kernel
theorem dX1_place_1 : decode cX1_place 1 = .ok (.bipush 25, 2) := by decide +kernel
theorem dX1_place_3 : decode cX1_place 3 = .ok (.imul, 1) := by decide +kernel
theorem dX1_place_4 : decode cX1_place 4 = .ok (.iload_n 1, 1) := by decide +kernel
theorem dX1_place_5 : decode cX1_place 5 = .ok (.iadd, 1) := by decide +kernel
theorem dX1_place_6 : decode cX1_place 6 = .ok (.ireturn, 1) := by decide +kernel
theorem dX1_choose_0 : decode cX1_choose 0 = .ok (.aload_n 3, 1) := by decide +kernel
theorem dX1_choose_1 : decode cX1_choose 1 = .ok (.iload_n 1, 1) := by decide +kernel
theorem dX1_choose_2 : decode cX1_choose 2 = .ok (.iload_n 2, 1) := by decide +kernel
theorem dX1_choose_3 : decode cX1_choose 3 = .ok (.invokevirtual 48, 3) := by decide +kernel
theorem dX1_choose_6 : decode cX1_choose 6 = .ok (.istore 5, 2) := by decide +kernel
theorem dX1_choose_8 : decode cX1_choose 8 = .ok (.aload_n 0, 1) := by decide +kernel
theorem dX1_choose_9 : decode cX1_choose 9 = .ok (.aload_n 3, 1) := by decide +kernel
theorem dX1_choose_10 : decode cX1_choose 10 = .ok (.iload 5, 2) := by decide +kernel
theorem dX1_choose_12 : decode cX1_choose 12 = .ok (.invokevirtual 51, 3) := by decide +kernel
theorem dX1_choose_15 : decode cX1_choose 15 = .ok (.putfield 26, 3) := by decide +kernel
theorem dX1_choose_18 : decode cX1_choose 18 = .ok (.aload_n 0, 1) := by decide +kernel
theorem dX1_choose_19 : decode cX1_choose 19 = .ok (.iconst (-1), 1) := by decide +kernel
theorem dX1_choose_20 : decode cX1_choose 20 = .ok (.putfield 30, 3) := by decide +kernel
theorem dX1_choose_23 : decode cX1_choose 23 = .ok (.aload_n 0, 1) := by decide +kernel
theorem dX1_choose_24 : decode cX1_choose 24 = .ok (.iconst (-1), 1) := by decide +kernel
theorem dX1_choose_25 : decode cX1_choose 25 = .ok (.putfield 33, 3) := by decide +kernel
theorem dX1_choose_28 : decode cX1_choose 28 = .ok (.iconst 1, 1) := by decide +kernel
theorem dX1_choose_29 : decode cX1_choose 29 = .ok (.istore 6, 2) := by decide +kernel
theorem dX1_choose_31 : decode cX1_choose 31 = .ok (.iload 6, 2) := by decide +kernel
theorem dX1_choose_33 : decode cX1_choose 33 = .ok (.iload 4, 2) := by decide +kernel
theorem dX1_choose_35 : decode cX1_choose 35 = .ok (.iadd, 1) := by decide +kernel
theorem dX1_choose_36 : decode cX1_choose 36 = .ok (.iload_n 1, 1) := by decide +kernel
theorem dX1_choose_37 : decode cX1_choose 37 = .ok (.if_icmp .ge 30, 3) := by decide +kernel
theorem dX1_choose_40 : decode cX1_choose 40 = .ok (.aload_n 0, 1) := by decide +kernel
theorem dX1_choose_41 : decode cX1_choose 41 = .ok (.iload 6, 2) := by decide +kernel
theorem dX1_choose_43 : decode cX1_choose 43 = .ok (.iload_n 2, 1) := by decide +kernel
theorem dX1_choose_44 : decode cX1_choose 44 = .ok (.invokestatic 44, 3) := by decide +kernel
theorem dX1_choose_47 : decode cX1_choose 47 = .ok (.iload_n 1, 1) := by decide +kernel
theorem dX1_choose_48 : decode cX1_choose 48 = .ok (.iload 4, 2) := by decide +kernel
theorem dX1_choose_50 : decode cX1_choose 50 = .ok (.isub, 1) := by decide +kernel
theorem dX1_choose_51 : decode cX1_choose 51 = .ok (.iload 6, 2) := by decide +kernel
theorem dX1_choose_53 : decode cX1_choose 53 = .ok (.isub, 1) := by decide +kernel
theorem dX1_choose_54 : decode cX1_choose 54 = .ok (.iload_n 2, 1) := by decide +kernel
theorem dX1_choose_55 : decode cX1_choose 55 = .ok (.invokestatic 44, 3) := by decide +kernel
theorem dX1_choose_58 : decode cX1_choose 58 = .ok (.invokevirtual 55, 3) := by decide +kernel
theorem dX1_choose_61 : decode cX1_choose 61 = .ok (.iinc 6 1, 3) := by decide +kernel
theorem dX1_choose_64 : decode cX1_choose 64 = .ok (.goto (-33), 3) := by decide +kernel
theorem dX1_choose_67 : decode cX1_choose 67 = .ok (.iconst 1, 1) := by decide +kernel
theorem dX1_choose_68 : decode cX1_choose 68 = .ok (.istore 6, 2) := by decide +kernel
theorem dX1_choose_70 : decode cX1_choose 70 = .ok (.iload 6, 2) := by decide +kernel
theorem dX1_choose_72 : decode cX1_choose 72 = .ok (.iload 4, 2) := by decide +kernel
theorem dX1_choose_74 : decode cX1_choose 74 = .ok (.iadd, 1) := by decide +kernel
theorem dX1_choose_75 : decode cX1_choose 75 = .ok (.iload_n 2, 1) := by decide +kernel
theorem dX1_choose_76 : decode cX1_choose 76 = .ok (.if_icmp .ge 30, 3) := by decide +kernel
theorem dX1_choose_79 : decode cX1_choose 79 = .ok (.aload_n 0, 1) := by decide +kernel
theorem dX1_choose_80 : decode cX1_choose 80 = .ok (.iload_n 1, 1) := by decide +kernel
theorem dX1_choose_81 : decode cX1_choose 81 = .ok (.iload 6, 2) := by decide +kernel
theorem dX1_choose_83 : decode cX1_choose 83 = .ok (.invokestatic 44, 3) := by decide +kernel
theorem dX1_choose_86 : decode cX1_choose 86 = .ok (.iload_n 1, 1) := by decide +kernel
theorem dX1_choose_87 : decode cX1_choose 87 = .ok (.iload_n 2, 1) := by decide +kernel
theorem dX1_choose_88 : decode cX1_choose 88 = .ok (.iload 4, 2) := by decide +kernel
theorem dX1_choose_90 : decode cX1_choose 90 = .ok (.isub, 1) := by decide +kernel
theorem dX1_choose_91 : decode cX1_choose 91 = .ok (.iload 6, 2) := by decide +kernel
theorem dX1_choose_93 : decode cX1_choose 93 = .ok (.isub, 1) := by decide +kernel
theorem dX1_choose_94 : decode cX1_choose 94 = .ok (.invokestatic 44, 3) := by decide +kernel
theorem dX1_choose_97 : decode cX1_choose 97 = .ok (.invokevirtual 55, 3) := by decide +kernel
theorem dX1_choose_100 : decode cX1_choose 100 = .ok (.iinc 6 1, 3) := by decide +kernel
theorem dX1_choose_103 : decode cX1_choose 103 = .ok (.goto (-33), 3) := by decide +kernel
theorem dX1_choose_106 : decode cX1_choose 106 = .ok (.aload_n 0, 1) := by decide +kernel
theorem dX1_choose_107 : decode cX1_choose 107 = .ok (.getfield 30, 3) := by decide +kernel
theorem dX1_choose_110 : decode cX1_choose 110 = .ok (.invokestatic 59, 3) := by decide +kernel
theorem dX1_choose_113 : decode cX1_choose 113 = .ok (.ifCond .eq 25, 3) := by decide +kernel
theorem dX1_choose_116 : decode cX1_choose 116 = .ok (.aload_n 0, 1) := by decide +kernel
theorem dX1_choose_117 : decode cX1_choose 117 = .ok (.getfield 33, 3) := by decide +kernel
theorem dX1_choose_120 : decode cX1_choose 120 = .ok (.invokestatic 59, 3) := by decide +kernel
theorem dX1_choose_123 : decode cX1_choose 123 = .ok (.ifCond .eq 15, 3) := by decide +kernel
theorem dX1_choose_126 : decode cX1_choose 126 = .ok (.aload_n 0, 1) := by decide +kernel
theorem dX1_choose_127 : decode cX1_choose 127 = .ok (.iload_n 1, 1) := by decide +kernel
theorem dX1_choose_128 : decode cX1_choose 128 = .ok (.iload_n 2, 1) := by decide +kernel
theorem dX1_choose_129 : decode cX1_choose 129 = .ok (.invokestatic 44, 3) := by decide +kernel
theorem dX1_choose_132 : decode cX1_choose 132 = .ok (.invokevirtual 63, 3) := by decide +kernel
theorem dX1_choose_135 : decode cX1_choose 135 = .ok (.goto 14, 3) := by decide +kernel
theorem dX1_choose_138 : decode cX1_choose 138 = .ok (.aload_n 0, 1) := by decide +kernel
theorem dX1_choose_139 : decode cX1_choose 139 = .ok (.iload_n 1, 1) := by decide +kernel
theorem dX1_choose_140 : decode cX1_choose 140 = .ok (.iload_n 2, 1) := by decide +kernel
theorem dX1_choose_141 : decode cX1_choose 141 = .ok (.invokestatic 44, 3) := by decide +kernel
theorem dX1_choose_144 : decode cX1_choose 144 = .ok (.iload 5, 2) := by decide +kernel
theorem dX1_choose_146 : decode cX1_choose 146 = .ok (.invokevirtual 67, 3) := by decide +kernel
theorem dX1_choose_149 : decode cX1_choose 149 = .ok (.return_, 1) := by decide +kernel
theorem dX1_isPlace_0 : decode cX1_isPlace 0 = .ok (.iload_n 0, 1) := by decide +kernel
theorem dX1_isPlace_1 : decode cX1_isPlace 1 = .ok (.ifCond .lt 14, 3) := by decide +kernel
theorem dX1_isPlace_4 : decode cX1_isPlace 4 = .ok (.iload_n 0, 1) := by decide +kernel
theorem dX1_isPlace_5 : decode cX1_isPlace 5 = .ok (.sipush 625, 3) := by decide +kernel
theorem dX1_isPlace_8 : decode cX1_isPlace 8 = .ok (.if_icmp .ge 7, 3) := by decide +kernel
theorem dX1_isPlace_11 : decode cX1_isPlace 11 = .ok (.iconst 1, 1) := by decide +kernel
theorem dX1_isPlace_12 : decode cX1_isPlace 12 = .ok (.goto 4, 3) := by decide +kernel
theorem dX1_isPlace_15 : decode cX1_isPlace 15 = .ok (.iconst 0, 1) := by decide +kernel
theorem dX1_isPlace_16 : decode cX1_isPlace 16 = .ok (.ireturn, 1) := by decide +kernel
theorem dX1_tryCut_0 : decode cX1_tryCut 0 = .ok (.iload_n 1, 1) := by decide +kernel
theorem dX1_tryCut_1 : decode cX1_tryCut 1 = .ok (.invokestatic 59, 3) := by decide +kernel
theorem dX1_tryCut_4 : decode cX1_tryCut 4 = .ok (.ifCond .eq 10, 3) := by decide +kernel
theorem dX1_tryCut_7 : decode cX1_tryCut 7 = .ok (.iload_n 2, 1) := by decide +kernel
theorem dX1_tryCut_8 : decode cX1_tryCut 8 = .ok (.invokestatic 59, 3) := by decide +kernel
theorem dX1_tryCut_11 : decode cX1_tryCut 11 = .ok (.ifCond .ne 4, 3) := by decide +kernel
theorem dX1_tryCut_14 : decode cX1_tryCut 14 = .ok (.return_, 1) := by decide +kernel
theorem dX1_tryCut_15 : decode cX1_tryCut 15 = .ok (.aload_n 0, 1) := by decide +kernel
theorem dX1_tryCut_16 : decode cX1_tryCut 16 = .ok (.getfield 13, 3) := by decide +kernel
theorem dX1_tryCut_19 : decode cX1_tryCut 19 = .ok (.iload_n 1, 1) := by decide +kernel
theorem dX1_tryCut_20 : decode cX1_tryCut 20 = .ok (.iaload, 1) := by decide +kernel
theorem dX1_tryCut_21 : decode cX1_tryCut 21 = .ok (.aload_n 0, 1) := by decide +kernel
theorem dX1_tryCut_22 : decode cX1_tryCut 22 = .ok (.getfield 13, 3) := by decide +kernel
theorem dX1_tryCut_25 : decode cX1_tryCut 25 = .ok (.iload_n 2, 1) := by decide +kernel
theorem dX1_tryCut_26 : decode cX1_tryCut 26 = .ok (.iaload, 1) := by decide +kernel
theorem dX1_tryCut_27 : decode cX1_tryCut 27 = .ok (.iadd, 1) := by decide +kernel
theorem dX1_tryCut_28 : decode cX1_tryCut 28 = .ok (.istore_n 3, 1) := by decide +kernel
theorem dX1_tryCut_29 : decode cX1_tryCut 29 = .ok (.iload_n 3, 1) := by decide +kernel
theorem dX1_tryCut_30 : decode cX1_tryCut 30 = .ok (.aload_n 0, 1) := by decide +kernel
theorem dX1_tryCut_31 : decode cX1_tryCut 31 = .ok (.getfield 26, 3) := by decide +kernel
theorem dX1_tryCut_34 : decode cX1_tryCut 34 = .ok (.if_icmp .le 18, 3) := by decide +kernel
theorem dX1_tryCut_37 : decode cX1_tryCut 37 = .ok (.aload_n 0, 1) := by decide +kernel
theorem dX1_tryCut_38 : decode cX1_tryCut 38 = .ok (.iload_n 3, 1) := by decide +kernel
theorem dX1_tryCut_39 : decode cX1_tryCut 39 = .ok (.putfield 26, 3) := by decide +kernel
theorem dX1_tryCut_42 : decode cX1_tryCut 42 = .ok (.aload_n 0, 1) := by decide +kernel
theorem dX1_tryCut_43 : decode cX1_tryCut 43 = .ok (.iload_n 1, 1) := by decide +kernel
theorem dX1_tryCut_44 : decode cX1_tryCut 44 = .ok (.putfield 30, 3) := by decide +kernel
theorem dX1_tryCut_47 : decode cX1_tryCut 47 = .ok (.aload_n 0, 1) := by decide +kernel
theorem dX1_tryCut_48 : decode cX1_tryCut 48 = .ok (.iload_n 2, 1) := by decide +kernel
theorem dX1_tryCut_49 : decode cX1_tryCut 49 = .ok (.putfield 33, 3) := by decide +kernel
theorem dX1_tryCut_52 : decode cX1_tryCut 52 = .ok (.return_, 1) := by decide +kernel
theorem dX1_writeWhole_0 : decode cX1_writeWhole 0 = .ok (.aload_n 0, 1) := by decide +kernel
theorem dX1_writeWhole_1 : decode cX1_writeWhole 1 = .ok (.getfield 13, 3) := by decide +kernel
theorem dX1_writeWhole_4 : decode cX1_writeWhole 4 = .ok (.iload_n 1, 1) := by decide +kernel
theorem dX1_writeWhole_5 : decode cX1_writeWhole 5 = .ok (.aload_n 0, 1) := by decide +kernel
theorem dX1_writeWhole_6 : decode cX1_writeWhole 6 = .ok (.getfield 26, 3) := by decide +kernel
theorem dX1_writeWhole_9 : decode cX1_writeWhole 9 = .ok (.iastore, 1) := by decide +kernel
theorem dX1_writeWhole_10 : decode cX1_writeWhole 10 = .ok (.iconst 0, 1) := by decide +kernel
theorem dX1_writeWhole_11 : decode cX1_writeWhole 11 = .ok (.istore_n 3, 1) := by decide +kernel
theorem dX1_writeWhole_12 : decode cX1_writeWhole 12 = .ok (.iload_n 3, 1) := by decide +kernel
theorem dX1_writeWhole_13 : decode cX1_writeWhole 13 = .ok (.bipush 6, 2) := by decide +kernel
theorem dX1_writeWhole_15 : decode cX1_writeWhole 15 = .ok (.if_icmp .gt 27, 3) := by decide +kernel
theorem dX1_writeWhole_18 : decode cX1_writeWhole 18 = .ok (.aload_n 0, 1) := by decide +kernel
theorem dX1_writeWhole_19 : decode cX1_writeWhole 19 = .ok (.getfield 19, 3) := by decide +kernel
theorem dX1_writeWhole_22 : decode cX1_writeWhole 22 = .ok (.iload_n 3, 1) := by decide +kernel
theorem dX1_writeWhole_23 : decode cX1_writeWhole 23 = .ok (.aaload, 1) := by decide +kernel
theorem dX1_writeWhole_24 : decode cX1_writeWhole 24 = .ok (.iload_n 1, 1) := by decide +kernel
theorem dX1_writeWhole_25 : decode cX1_writeWhole 25 = .ok (.iload_n 3, 1) := by decide +kernel
theorem dX1_writeWhole_26 : decode cX1_writeWhole 26 = .ok (.iload_n 2, 1) := by decide +kernel
theorem dX1_writeWhole_27 : decode cX1_writeWhole 27 = .ok (.if_icmp .ne 7, 3) := by decide +kernel
theorem dX1_writeWhole_30 : decode cX1_writeWhole 30 = .ok (.iconst 1, 1) := by decide +kernel
theorem dX1_writeWhole_31 : decode cX1_writeWhole 31 = .ok (.goto 4, 3) := by decide +kernel
theorem dX1_writeWhole_34 : decode cX1_writeWhole 34 = .ok (.iconst 0, 1) := by decide +kernel
theorem dX1_writeWhole_35 : decode cX1_writeWhole 35 = .ok (.iastore, 1) := by decide +kernel
theorem dX1_writeWhole_36 : decode cX1_writeWhole 36 = .ok (.iinc 3 1, 3) := by decide +kernel
theorem dX1_writeWhole_39 : decode cX1_writeWhole 39 = .ok (.goto (-27), 3) := by decide +kernel
theorem dX1_writeWhole_42 : decode cX1_writeWhole 42 = .ok (.return_, 1) := by decide +kernel
theorem dX1_writeCut_0 : decode cX1_writeCut 0 = .ok (.aload_n 0, 1) := by decide +kernel
theorem dX1_writeCut_1 : decode cX1_writeCut 1 = .ok (.getfield 13, 3) := by decide +kernel
theorem dX1_writeCut_4 : decode cX1_writeCut 4 = .ok (.iload_n 1, 1) := by decide +kernel
theorem dX1_writeCut_5 : decode cX1_writeCut 5 = .ok (.aload_n 0, 1) := by decide +kernel
theorem dX1_writeCut_6 : decode cX1_writeCut 6 = .ok (.getfield 26, 3) := by decide +kernel
theorem dX1_writeCut_9 : decode cX1_writeCut 9 = .ok (.iastore, 1) := by decide +kernel
theorem dX1_writeCut_10 : decode cX1_writeCut 10 = .ok (.iconst 0, 1) := by decide +kernel
theorem dX1_writeCut_11 : decode cX1_writeCut 11 = .ok (.istore_n 2, 1) := by decide +kernel
theorem dX1_writeCut_12 : decode cX1_writeCut 12 = .ok (.iload_n 2, 1) := by decide +kernel
theorem dX1_writeCut_13 : decode cX1_writeCut 13 = .ok (.bipush 6, 2) := by decide +kernel
theorem dX1_writeCut_15 : decode cX1_writeCut 15 = .ok (.if_icmp .gt 40, 3) := by decide +kernel
theorem dX1_writeCut_18 : decode cX1_writeCut 18 = .ok (.aload_n 0, 1) := by decide +kernel
theorem dX1_writeCut_19 : decode cX1_writeCut 19 = .ok (.getfield 19, 3) := by decide +kernel
theorem dX1_writeCut_22 : decode cX1_writeCut 22 = .ok (.iload_n 2, 1) := by decide +kernel
theorem dX1_writeCut_23 : decode cX1_writeCut 23 = .ok (.aaload, 1) := by decide +kernel
theorem dX1_writeCut_24 : decode cX1_writeCut 24 = .ok (.iload_n 1, 1) := by decide +kernel
theorem dX1_writeCut_25 : decode cX1_writeCut 25 = .ok (.aload_n 0, 1) := by decide +kernel
theorem dX1_writeCut_26 : decode cX1_writeCut 26 = .ok (.getfield 19, 3) := by decide +kernel
theorem dX1_writeCut_29 : decode cX1_writeCut 29 = .ok (.iload_n 2, 1) := by decide +kernel
theorem dX1_writeCut_30 : decode cX1_writeCut 30 = .ok (.aaload, 1) := by decide +kernel
theorem dX1_writeCut_31 : decode cX1_writeCut 31 = .ok (.aload_n 0, 1) := by decide +kernel
theorem dX1_writeCut_32 : decode cX1_writeCut 32 = .ok (.getfield 30, 3) := by decide +kernel
theorem dX1_writeCut_35 : decode cX1_writeCut 35 = .ok (.iaload, 1) := by decide +kernel
theorem dX1_writeCut_36 : decode cX1_writeCut 36 = .ok (.aload_n 0, 1) := by decide +kernel
theorem dX1_writeCut_37 : decode cX1_writeCut 37 = .ok (.getfield 19, 3) := by decide +kernel
theorem dX1_writeCut_40 : decode cX1_writeCut 40 = .ok (.iload_n 2, 1) := by decide +kernel
theorem dX1_writeCut_41 : decode cX1_writeCut 41 = .ok (.aaload, 1) := by decide +kernel
theorem dX1_writeCut_42 : decode cX1_writeCut 42 = .ok (.aload_n 0, 1) := by decide +kernel
theorem dX1_writeCut_43 : decode cX1_writeCut 43 = .ok (.getfield 33, 3) := by decide +kernel
theorem dX1_writeCut_46 : decode cX1_writeCut 46 = .ok (.iaload, 1) := by decide +kernel
theorem dX1_writeCut_47 : decode cX1_writeCut 47 = .ok (.iadd, 1) := by decide +kernel
theorem dX1_writeCut_48 : decode cX1_writeCut 48 = .ok (.iastore, 1) := by decide +kernel
theorem dX1_writeCut_49 : decode cX1_writeCut 49 = .ok (.iinc 2 1, 3) := by decide +kernel
theorem dX1_writeCut_52 : decode cX1_writeCut 52 = .ok (.goto (-40), 3) := by decide +kernel
theorem dX1_writeCut_55 : decode cX1_writeCut 55 = .ok (.aload_n 0, 1) := by decide +kernel
theorem dX1_writeCut_56 : decode cX1_writeCut 56 = .ok (.getfield 19, 3) := by decide +kernel
theorem dX1_writeCut_59 : decode cX1_writeCut 59 = .ok (.bipush 6, 2) := by decide +kernel
theorem dX1_writeCut_61 : decode cX1_writeCut 61 = .ok (.aaload, 1) := by decide +kernel
theorem dX1_writeCut_62 : decode cX1_writeCut 62 = .ok (.iload_n 1, 1) := by decide +kernel
theorem dX1_writeCut_63 : decode cX1_writeCut 63 = .ok (.dup2, 1) := by decide +kernel
theorem dX1_writeCut_64 : decode cX1_writeCut 64 = .ok (.iaload, 1) := by decide +kernel
theorem dX1_writeCut_65 : decode cX1_writeCut 65 = .ok (.iconst 1, 1) := by decide +kernel
theorem dX1_writeCut_66 : decode cX1_writeCut 66 = .ok (.iadd, 1) := by decide +kernel
theorem dX1_writeCut_67 : decode cX1_writeCut 67 = .ok (.iastore, 1) := by decide +kernel
theorem dX1_writeCut_68 : decode cX1_writeCut 68 = .ok (.return_, 1) := by decide +kernel
theorem dX2_init_0 : decode cX2_init 0 = .ok (.aload_n 0, 1) := by decide +kernel
theorem dX2_init_1 : decode cX2_init 1 = .ok (.invokespecial 3, 3) := by decide +kernel
theorem dX2_init_4 : decode cX2_init 4 = .ok (.aload_n 0, 1) := by decide +kernel
theorem dX2_init_5 : decode cX2_init 5 = .ok (.bipush 32, 2) := by decide +kernel
theorem dX2_init_7 : decode cX2_init 7 = .ok (.newarray .int, 2) := by decide +kernel
theorem dX2_init_9 : decode cX2_init 9 = .ok (.putfield 11, 3) := by decide +kernel
theorem dX2_init_12 : decode cX2_init 12 = .ok (.aload_n 0, 1) := by decide +kernel
theorem dX2_init_13 : decode cX2_init 13 = .ok (.bipush 8, 2) := by decide +kernel
theorem dX2_init_15 : decode cX2_init 15 = .ok (.newarray .boolean, 2) := by decide +kernel
theorem dX2_init_17 : decode cX2_init 17 = .ok (.putfield 15, 3) := by decide +kernel
theorem dX2_init_20 : decode cX2_init 20 = .ok (.aload_n 0, 1) := by decide +kernel
theorem dX2_init_21 : decode cX2_init 21 = .ok (.bipush 8, 2) := by decide +kernel
theorem dX2_init_23 : decode cX2_init 23 = .ok (.newarray .boolean, 2) := by decide +kernel
theorem dX2_init_25 : decode cX2_init 25 = .ok (.putfield 19, 3) := by decide +kernel
theorem dX2_init_28 : decode cX2_init 28 = .ok (.iconst 0, 1) := by decide +kernel
theorem dX2_init_29 : decode cX2_init 29 = .ok (.istore_n 1, 1) := by decide +kernel
theorem dX2_init_30 : decode cX2_init 30 = .ok (.iload_n 1, 1) := by decide +kernel
theorem dX2_init_31 : decode cX2_init 31 = .ok (.bipush 32, 2) := by decide +kernel
theorem dX2_init_33 : decode cX2_init 33 = .ok (.if_icmp .ge 18, 3) := by decide +kernel
theorem dX2_init_36 : decode cX2_init 36 = .ok (.aload_n 0, 1) := by decide +kernel
theorem dX2_init_37 : decode cX2_init 37 = .ok (.getfield 11, 3) := by decide +kernel
theorem dX2_init_40 : decode cX2_init 40 = .ok (.iload_n 1, 1) := by decide +kernel
theorem dX2_init_41 : decode cX2_init 41 = .ok (.iload_n 1, 1) := by decide +kernel
theorem dX2_init_42 : decode cX2_init 42 = .ok (.iconst 4, 1) := by decide +kernel
theorem dX2_init_43 : decode cX2_init 43 = .ok (.idiv, 1) := by decide +kernel
theorem dX2_init_44 : decode cX2_init 44 = .ok (.iastore, 1) := by decide +kernel
theorem dX2_init_45 : decode cX2_init 45 = .ok (.iinc 1 1, 3) := by decide +kernel
theorem dX2_init_48 : decode cX2_init 48 = .ok (.goto (-18), 3) := by decide +kernel
theorem dX2_init_51 : decode cX2_init 51 = .ok (.return_, 1) := by decide +kernel
theorem dX2_isState_0 : decode cX2_isState 0 = .ok (.iload_n 0, 1) := by decide +kernel
theorem dX2_isState_1 : decode cX2_isState 1 = .ok (.ifCond .lt 13, 3) := by decide +kernel
theorem dX2_isState_4 : decode cX2_isState 4 = .ok (.iload_n 0, 1) := by decide +kernel
theorem dX2_isState_5 : decode cX2_isState 5 = .ok (.bipush 8, 2) := by decide +kernel
theorem dX2_isState_7 : decode cX2_isState 7 = .ok (.if_icmp .ge 7, 3) := by decide +kernel
theorem dX2_isState_10 : decode cX2_isState 10 = .ok (.iconst 1, 1) := by decide +kernel
theorem dX2_isState_11 : decode cX2_isState 11 = .ok (.goto 4, 3) := by decide +kernel
theorem dX2_isState_14 : decode cX2_isState 14 = .ok (.iconst 0, 1) := by decide +kernel
theorem dX2_isState_15 : decode cX2_isState 15 = .ok (.ireturn, 1) := by decide +kernel
theorem dX2_isEvent_0 : decode cX2_isEvent 0 = .ok (.iload_n 0, 1) := by decide +kernel
theorem dX2_isEvent_1 : decode cX2_isEvent 1 = .ok (.ifCond .lt 12, 3) := by decide +kernel
theorem dX2_isEvent_4 : decode cX2_isEvent 4 = .ok (.iload_n 0, 1) := by decide +kernel
theorem dX2_isEvent_5 : decode cX2_isEvent 5 = .ok (.iconst 4, 1) := by decide +kernel
theorem dX2_isEvent_6 : decode cX2_isEvent 6 = .ok (.if_icmp .ge 7, 3) := by decide +kernel
theorem dX2_isEvent_9 : decode cX2_isEvent 9 = .ok (.iconst 1, 1) := by decide +kernel
theorem dX2_isEvent_10 : decode cX2_isEvent 10 = .ok (.goto 4, 3) := by decide +kernel
theorem dX2_isEvent_13 : decode cX2_isEvent 13 = .ok (.iconst 0, 1) := by decide +kernel
theorem dX2_isEvent_14 : decode cX2_isEvent 14 = .ok (.ireturn, 1) := by decide +kernel
theorem dX2_lead_0 : decode cX2_lead 0 = .ok (.iload_n 1, 1) := by decide +kernel
theorem dX2_lead_1 : decode cX2_lead 1 = .ok (.invokestatic 22, 3) := by decide +kernel
theorem dX2_lead_4 : decode cX2_lead 4 = .ok (.ifCond .eq 17, 3) := by decide +kernel
theorem dX2_lead_7 : decode cX2_lead 7 = .ok (.iload_n 2, 1) := by decide +kernel
theorem dX2_lead_8 : decode cX2_lead 8 = .ok (.invokestatic 26, 3) := by decide +kernel
theorem dX2_lead_11 : decode cX2_lead 11 = .ok (.ifCond .eq 10, 3) := by decide +kernel
theorem dX2_lead_14 : decode cX2_lead 14 = .ok (.iload_n 3, 1) := by decide +kernel
theorem dX2_lead_15 : decode cX2_lead 15 = .ok (.invokestatic 22, 3) := by decide +kernel
theorem dX2_lead_18 : decode cX2_lead 18 = .ok (.ifCond .ne 5, 3) := by decide +kernel
theorem dX2_lead_21 : decode cX2_lead 21 = .ok (.iconst 0, 1) := by decide +kernel
theorem dX2_lead_22 : decode cX2_lead 22 = .ok (.ireturn, 1) := by decide +kernel
theorem dX2_lead_23 : decode cX2_lead 23 = .ok (.aload_n 0, 1) := by decide +kernel
theorem dX2_lead_24 : decode cX2_lead 24 = .ok (.getfield 11, 3) := by decide +kernel
theorem dX2_lead_27 : decode cX2_lead 27 = .ok (.iload_n 1, 1) := by decide +kernel
theorem dX2_lead_28 : decode cX2_lead 28 = .ok (.iconst 4, 1) := by decide +kernel
theorem dX2_lead_29 : decode cX2_lead 29 = .ok (.imul, 1) := by decide +kernel
theorem dX2_lead_30 : decode cX2_lead 30 = .ok (.iload_n 2, 1) := by decide +kernel
theorem dX2_lead_31 : decode cX2_lead 31 = .ok (.iadd, 1) := by decide +kernel
theorem dX2_lead_32 : decode cX2_lead 32 = .ok (.iload_n 3, 1) := by decide +kernel
theorem dX2_lead_33 : decode cX2_lead 33 = .ok (.iastore, 1) := by decide +kernel
theorem dX2_lead_34 : decode cX2_lead 34 = .ok (.iconst 1, 1) := by decide +kernel
theorem dX2_lead_35 : decode cX2_lead 35 = .ok (.ireturn, 1) := by decide +kernel
theorem dX2_equip_0 : decode cX2_equip 0 = .ok (.iload_n 1, 1) := by decide +kernel
theorem dX2_equip_1 : decode cX2_equip 1 = .ok (.invokestatic 22, 3) := by decide +kernel
theorem dX2_equip_4 : decode cX2_equip 4 = .ok (.ifCond .ne 5, 3) := by decide +kernel
theorem dX2_equip_7 : decode cX2_equip 7 = .ok (.iconst 0, 1) := by decide +kernel
theorem dX2_equip_8 : decode cX2_equip 8 = .ok (.ireturn, 1) := by decide +kernel
theorem dX2_equip_9 : decode cX2_equip 9 = .ok (.aload_n 0, 1) := by decide +kernel
theorem dX2_equip_10 : decode cX2_equip 10 = .ok (.getfield 15, 3) := by decide +kernel
theorem dX2_equip_13 : decode cX2_equip 13 = .ok (.iload_n 1, 1) := by decide +kernel
theorem dX2_equip_14 : decode cX2_equip 14 = .ok (.iload_n 2, 1) := by decide +kernel
theorem dX2_equip_15 : decode cX2_equip 15 = .ok (.bastore, 1) := by decide +kernel
theorem dX2_equip_16 : decode cX2_equip 16 = .ok (.aload_n 0, 1) := by decide +kernel
theorem dX2_equip_17 : decode cX2_equip 17 = .ok (.getfield 19, 3) := by decide +kernel
theorem dX2_equip_20 : decode cX2_equip 20 = .ok (.iload_n 1, 1) := by decide +kernel
theorem dX2_equip_21 : decode cX2_equip 21 = .ok (.iload_n 3, 1) := by decide +kernel
theorem dX2_equip_22 : decode cX2_equip 22 = .ok (.bastore, 1) := by decide +kernel
theorem dX2_equip_23 : decode cX2_equip 23 = .ok (.iconst 1, 1) := by decide +kernel
theorem dX2_equip_24 : decode cX2_equip 24 = .ok (.ireturn, 1) := by decide +kernel
theorem dX2_after_0 : decode cX2_after 0 = .ok (.iload_n 1, 1) := by decide +kernel
theorem dX2_after_1 : decode cX2_after 1 = .ok (.invokestatic 22, 3) := by decide +kernel
theorem dX2_after_4 : decode cX2_after 4 = .ok (.ifCond .eq 23, 3) := by decide +kernel
theorem dX2_after_7 : decode cX2_after 7 = .ok (.iload_n 2, 1) := by decide +kernel
theorem dX2_after_8 : decode cX2_after 8 = .ok (.invokestatic 26, 3) := by decide +kernel
theorem dX2_after_11 : decode cX2_after 11 = .ok (.ifCond .eq 16, 3) := by decide +kernel
theorem dX2_after_14 : decode cX2_after 14 = .ok (.aload_n 0, 1) := by decide +kernel
theorem dX2_after_15 : decode cX2_after 15 = .ok (.getfield 11, 3) := by decide +kernel
theorem dX2_after_18 : decode cX2_after 18 = .ok (.iload_n 1, 1) := by decide +kernel
theorem dX2_after_19 : decode cX2_after 19 = .ok (.iconst 4, 1) := by decide +kernel
theorem dX2_after_20 : decode cX2_after 20 = .ok (.imul, 1) := by decide +kernel
theorem dX2_after_21 : decode cX2_after 21 = .ok (.iload_n 2, 1) := by decide +kernel
theorem dX2_after_22 : decode cX2_after 22 = .ok (.iadd, 1) := by decide +kernel
theorem dX2_after_23 : decode cX2_after 23 = .ok (.iaload, 1) := by decide +kernel
theorem dX2_after_24 : decode cX2_after 24 = .ok (.goto 4, 3) := by decide +kernel
theorem dX2_after_27 : decode cX2_after 27 = .ok (.iconst (-1), 1) := by decide +kernel
theorem dX2_after_28 : decode cX2_after 28 = .ok (.ireturn, 1) := by decide +kernel
theorem dX2_feeds_0 : decode cX2_feeds 0 = .ok (.iload_n 1, 1) := by decide +kernel
theorem dX2_feeds_1 : decode cX2_feeds 1 = .ok (.invokestatic 22, 3) := by decide +kernel
theorem dX2_feeds_4 : decode cX2_feeds 4 = .ok (.ifCond .eq 16, 3) := by decide +kernel
theorem dX2_feeds_7 : decode cX2_feeds 7 = .ok (.aload_n 0, 1) := by decide +kernel
theorem dX2_feeds_8 : decode cX2_feeds 8 = .ok (.getfield 15, 3) := by decide +kernel
theorem dX2_feeds_11 : decode cX2_feeds 11 = .ok (.iload_n 1, 1) := by decide +kernel
theorem dX2_feeds_12 : decode cX2_feeds 12 = .ok (.baload, 1) := by decide +kernel
theorem dX2_feeds_13 : decode cX2_feeds 13 = .ok (.ifCond .eq 7, 3) := by decide +kernel
theorem dX2_feeds_16 : decode cX2_feeds 16 = .ok (.iconst 1, 1) := by decide +kernel
theorem dX2_feeds_17 : decode cX2_feeds 17 = .ok (.goto 4, 3) := by decide +kernel
theorem dX2_feeds_20 : decode cX2_feeds 20 = .ok (.iconst 0, 1) := by decide +kernel
theorem dX2_feeds_21 : decode cX2_feeds 21 = .ok (.ireturn, 1) := by decide +kernel
theorem dX2_waters_0 : decode cX2_waters 0 = .ok (.iload_n 1, 1) := by decide +kernel
theorem dX2_waters_1 : decode cX2_waters 1 = .ok (.invokestatic 22, 3) := by decide +kernel
theorem dX2_waters_4 : decode cX2_waters 4 = .ok (.ifCond .eq 16, 3) := by decide +kernel
theorem dX2_waters_7 : decode cX2_waters 7 = .ok (.aload_n 0, 1) := by decide +kernel
theorem dX2_waters_8 : decode cX2_waters 8 = .ok (.getfield 19, 3) := by decide +kernel
theorem dX2_waters_11 : decode cX2_waters 11 = .ok (.iload_n 1, 1) := by decide +kernel
theorem dX2_waters_12 : decode cX2_waters 12 = .ok (.baload, 1) := by decide +kernel
theorem dX2_waters_13 : decode cX2_waters 13 = .ok (.ifCond .eq 7, 3) := by decide +kernel
theorem dX2_waters_16 : decode cX2_waters 16 = .ok (.iconst 1, 1) := by decide +kernel
theorem dX2_waters_17 : decode cX2_waters 17 = .ok (.goto 4, 3) := by decide +kernel
theorem dX2_waters_20 : decode cX2_waters 20 = .ok (.iconst 0, 1) := by decide +kernel
theorem dX2_waters_21 : decode cX2_waters 21 = .ok (.ireturn, 1) := by decide +kernel
theorem dX2_copyFrom_0 : decode cX2_copyFrom 0 = .ok (.aload_n 1, 1) := by decide +kernel
theorem dX2_copyFrom_1 : decode cX2_copyFrom 1 = .ok (.getfield 11, 3) := by decide +kernel
theorem dX2_copyFrom_4 : decode cX2_copyFrom 4 = .ok (.iconst 0, 1) := by decide +kernel
theorem dX2_copyFrom_5 : decode cX2_copyFrom 5 = .ok (.aload_n 0, 1) := by decide +kernel
theorem dX2_copyFrom_6 : decode cX2_copyFrom 6 = .ok (.getfield 11, 3) := by decide +kernel
theorem dX2_copyFrom_9 : decode cX2_copyFrom 9 = .ok (.iconst 0, 1) := by decide +kernel
theorem dX2_copyFrom_10 : decode cX2_copyFrom 10 = .ok (.bipush 32, 2) := by decide +kernel
theorem dX2_copyFrom_12 : decode cX2_copyFrom 12 = .ok (.invokestatic 29, 3) := by decide +kernel
theorem dX2_copyFrom_15 : decode cX2_copyFrom 15 = .ok (.iconst 0, 1) := by decide +kernel
theorem dX2_copyFrom_16 : decode cX2_copyFrom 16 = .ok (.istore_n 2, 1) := by decide +kernel
theorem dX2_copyFrom_17 : decode cX2_copyFrom 17 = .ok (.iload_n 2, 1) := by decide +kernel
theorem dX2_copyFrom_18 : decode cX2_copyFrom 18 = .ok (.bipush 8, 2) := by decide +kernel
theorem dX2_copyFrom_20 : decode cX2_copyFrom 20 = .ok (.if_icmp .ge 33, 3) := by decide +kernel
theorem dX2_copyFrom_23 : decode cX2_copyFrom 23 = .ok (.aload_n 0, 1) := by decide +kernel
theorem dX2_copyFrom_24 : decode cX2_copyFrom 24 = .ok (.getfield 15, 3) := by decide +kernel
theorem dX2_copyFrom_27 : decode cX2_copyFrom 27 = .ok (.iload_n 2, 1) := by decide +kernel
theorem dX2_copyFrom_28 : decode cX2_copyFrom 28 = .ok (.aload_n 1, 1) := by decide +kernel
theorem dX2_copyFrom_29 : decode cX2_copyFrom 29 = .ok (.getfield 15, 3) := by decide +kernel
theorem dX2_copyFrom_32 : decode cX2_copyFrom 32 = .ok (.iload_n 2, 1) := by decide +kernel
theorem dX2_copyFrom_33 : decode cX2_copyFrom 33 = .ok (.baload, 1) := by decide +kernel
theorem dX2_copyFrom_34 : decode cX2_copyFrom 34 = .ok (.bastore, 1) := by decide +kernel
theorem dX2_copyFrom_35 : decode cX2_copyFrom 35 = .ok (.aload_n 0, 1) := by decide +kernel
theorem dX2_copyFrom_36 : decode cX2_copyFrom 36 = .ok (.getfield 19, 3) := by decide +kernel
theorem dX2_copyFrom_39 : decode cX2_copyFrom 39 = .ok (.iload_n 2, 1) := by decide +kernel
theorem dX2_copyFrom_40 : decode cX2_copyFrom 40 = .ok (.aload_n 1, 1) := by decide +kernel
theorem dX2_copyFrom_41 : decode cX2_copyFrom 41 = .ok (.getfield 19, 3) := by decide +kernel
theorem dX2_copyFrom_44 : decode cX2_copyFrom 44 = .ok (.iload_n 2, 1) := by decide +kernel
theorem dX2_copyFrom_45 : decode cX2_copyFrom 45 = .ok (.baload, 1) := by decide +kernel
theorem dX2_copyFrom_46 : decode cX2_copyFrom 46 = .ok (.bastore, 1) := by decide +kernel
theorem dX2_copyFrom_47 : decode cX2_copyFrom 47 = .ok (.iinc 2 1, 3) := by decide +kernel
theorem dX2_copyFrom_50 : decode cX2_copyFrom 50 = .ok (.goto (-33), 3) := by decide +kernel
theorem dX2_copyFrom_53 : decode cX2_copyFrom 53 = .ok (.return_, 1) := by decide +kernel
theorem dX3_init_0 : decode cX3_init 0 = .ok (.aload_n 0, 1) := by decide +kernel
theorem dX3_init_1 : decode cX3_init 1 = .ok (.invokespecial 3, 3) := by decide +kernel
theorem dX3_init_4 : decode cX3_init 4 = .ok (.aload_n 0, 1) := by decide +kernel
theorem dX3_init_5 : decode cX3_init 5 = .ok (.bipush 11, 2) := by decide +kernel
theorem dX3_init_7 : decode cX3_init 7 = .ok (.newarray .int, 2) := by decide +kernel
theorem dX3_init_9 : decode cX3_init 9 = .ok (.putfield 11, 3) := by decide +kernel
theorem dX3_init_12 : decode cX3_init 12 = .ok (.aload_n 0, 1) := by decide +kernel
theorem dX3_init_13 : decode cX3_init 13 = .ok (.bipush 11, 2) := by decide +kernel
theorem dX3_init_15 : decode cX3_init 15 = .ok (.newarray .int, 2) := by decide +kernel
theorem dX3_init_17 : decode cX3_init 17 = .ok (.putfield 15, 3) := by decide +kernel
theorem dX3_init_20 : decode cX3_init 20 = .ok (.aload_n 0, 1) := by decide +kernel
theorem dX3_init_21 : decode cX3_init 21 = .ok (.bipush 9, 2) := by decide +kernel
theorem dX3_init_23 : decode cX3_init 23 = .ok (.newarray .int, 2) := by decide +kernel
theorem dX3_init_25 : decode cX3_init 25 = .ok (.putfield 18, 3) := by decide +kernel
theorem dX3_init_28 : decode cX3_init 28 = .ok (.return_, 1) := by decide +kernel
theorem dX3_begin_0 : decode cX3_begin 0 = .ok (.aload_n 0, 1) := by decide +kernel
theorem dX3_begin_1 : decode cX3_begin 1 = .ok (.getfield 11, 3) := by decide +kernel
theorem dX3_begin_4 : decode cX3_begin 4 = .ok (.iconst 0, 1) := by decide +kernel
theorem dX3_begin_5 : decode cX3_begin 5 = .ok (.bipush 100, 2) := by decide +kernel
theorem dX3_begin_7 : decode cX3_begin 7 = .ok (.iload_n 1, 1) := by decide +kernel
theorem dX3_begin_8 : decode cX3_begin 8 = .ok (.imul, 1) := by decide +kernel
theorem dX3_begin_9 : decode cX3_begin 9 = .ok (.iastore, 1) := by decide +kernel
theorem dX3_begin_10 : decode cX3_begin 10 = .ok (.aload_n 0, 1) := by decide +kernel
theorem dX3_begin_11 : decode cX3_begin 11 = .ok (.getfield 11, 3) := by decide +kernel
theorem dX3_begin_14 : decode cX3_begin 14 = .ok (.bipush 10, 2) := by decide +kernel
theorem dX3_begin_16 : decode cX3_begin 16 = .ok (.bipush 100, 2) := by decide +kernel
theorem dX3_begin_18 : decode cX3_begin 18 = .ok (.iload_n 1, 1) := by decide +kernel
theorem dX3_begin_19 : decode cX3_begin 19 = .ok (.imul, 1) := by decide +kernel
theorem dX3_begin_20 : decode cX3_begin 20 = .ok (.iastore, 1) := by decide +kernel
theorem dX3_begin_21 : decode cX3_begin 21 = .ok (.iconst 0, 1) := by decide +kernel
theorem dX3_begin_22 : decode cX3_begin 22 = .ok (.istore_n 2, 1) := by decide +kernel
theorem dX3_begin_23 : decode cX3_begin 23 = .ok (.iload_n 2, 1) := by decide +kernel
theorem dX3_begin_24 : decode cX3_begin 24 = .ok (.bipush 9, 2) := by decide +kernel
theorem dX3_begin_26 : decode cX3_begin 26 = .ok (.if_icmp .ge 27, 3) := by decide +kernel
theorem dX3_begin_29 : decode cX3_begin 29 = .ok (.aload_n 0, 1) := by decide +kernel
theorem dX3_begin_30 : decode cX3_begin 30 = .ok (.getfield 11, 3) := by decide +kernel
theorem dX3_begin_33 : decode cX3_begin 33 = .ok (.iload_n 2, 1) := by decide +kernel
theorem dX3_begin_34 : decode cX3_begin 34 = .ok (.iconst 1, 1) := by decide +kernel
theorem dX3_begin_35 : decode cX3_begin 35 = .ok (.iadd, 1) := by decide +kernel
theorem dX3_begin_36 : decode cX3_begin 36 = .ok (.sipush 2000, 3) := by decide +kernel
theorem dX3_begin_39 : decode cX3_begin 39 = .ok (.iastore, 1) := by decide +kernel
theorem dX3_begin_40 : decode cX3_begin 40 = .ok (.aload_n 0, 1) := by decide +kernel
theorem dX3_begin_41 : decode cX3_begin 41 = .ok (.getfield 18, 3) := by decide +kernel
theorem dX3_begin_44 : decode cX3_begin 44 = .ok (.iload_n 2, 1) := by decide +kernel
theorem dX3_begin_45 : decode cX3_begin 45 = .ok (.iconst 0, 1) := by decide +kernel
theorem dX3_begin_46 : decode cX3_begin 46 = .ok (.iastore, 1) := by decide +kernel
theorem dX3_begin_47 : decode cX3_begin 47 = .ok (.iinc 2 1, 3) := by decide +kernel
theorem dX3_begin_50 : decode cX3_begin 50 = .ok (.goto (-27), 3) := by decide +kernel
theorem dX3_begin_53 : decode cX3_begin 53 = .ok (.return_, 1) := by decide +kernel
theorem dX3_tick_0 : decode cX3_tick 0 = .ok (.aload_n 0, 1) := by decide +kernel
theorem dX3_tick_1 : decode cX3_tick 1 = .ok (.getfield 11, 3) := by decide +kernel
theorem dX3_tick_4 : decode cX3_tick 4 = .ok (.iconst 0, 1) := by decide +kernel
theorem dX3_tick_5 : decode cX3_tick 5 = .ok (.aload_n 0, 1) := by decide +kernel
theorem dX3_tick_6 : decode cX3_tick 6 = .ok (.getfield 15, 3) := by decide +kernel
theorem dX3_tick_9 : decode cX3_tick 9 = .ok (.iconst 0, 1) := by decide +kernel
theorem dX3_tick_10 : decode cX3_tick 10 = .ok (.bipush 11, 2) := by decide +kernel
theorem dX3_tick_12 : decode cX3_tick 12 = .ok (.invokestatic 21, 3) := by decide +kernel
theorem dX3_tick_15 : decode cX3_tick 15 = .ok (.iconst 0, 1) := by decide +kernel
theorem dX3_tick_16 : decode cX3_tick 16 = .ok (.istore_n 1, 1) := by decide +kernel
theorem dX3_tick_17 : decode cX3_tick 17 = .ok (.iload_n 1, 1) := by decide +kernel
theorem dX3_tick_18 : decode cX3_tick 18 = .ok (.bipush 9, 2) := by decide +kernel
theorem dX3_tick_20 : decode cX3_tick 20 = .ok (.if_icmp .ge 76, 3) := by decide +kernel
theorem dX3_tick_23 : decode cX3_tick 23 = .ok (.aload_n 0, 1) := by decide +kernel
theorem dX3_tick_24 : decode cX3_tick 24 = .ok (.getfield 15, 3) := by decide +kernel
theorem dX3_tick_27 : decode cX3_tick 27 = .ok (.iload_n 1, 1) := by decide +kernel
theorem dX3_tick_28 : decode cX3_tick 28 = .ok (.iconst 1, 1) := by decide +kernel
theorem dX3_tick_29 : decode cX3_tick 29 = .ok (.iadd, 1) := by decide +kernel
theorem dX3_tick_30 : decode cX3_tick 30 = .ok (.iaload, 1) := by decide +kernel
theorem dX3_tick_31 : decode cX3_tick 31 = .ok (.istore_n 2, 1) := by decide +kernel
theorem dX3_tick_32 : decode cX3_tick 32 = .ok (.iload_n 2, 1) := by decide +kernel
theorem dX3_tick_33 : decode cX3_tick 33 = .ok (.aload_n 0, 1) := by decide +kernel
theorem dX3_tick_34 : decode cX3_tick 34 = .ok (.getfield 15, 3) := by decide +kernel
theorem dX3_tick_37 : decode cX3_tick 37 = .ok (.iload_n 1, 1) := by decide +kernel
theorem dX3_tick_38 : decode cX3_tick 38 = .ok (.iaload, 1) := by decide +kernel
theorem dX3_tick_39 : decode cX3_tick 39 = .ok (.aload_n 0, 1) := by decide +kernel
theorem dX3_tick_40 : decode cX3_tick 40 = .ok (.getfield 15, 3) := by decide +kernel
theorem dX3_tick_43 : decode cX3_tick 43 = .ok (.iload_n 1, 1) := by decide +kernel
theorem dX3_tick_44 : decode cX3_tick 44 = .ok (.iconst 2, 1) := by decide +kernel
theorem dX3_tick_45 : decode cX3_tick 45 = .ok (.iadd, 1) := by decide +kernel
theorem dX3_tick_46 : decode cX3_tick 46 = .ok (.iaload, 1) := by decide +kernel
theorem dX3_tick_47 : decode cX3_tick 47 = .ok (.iadd, 1) := by decide +kernel
theorem dX3_tick_48 : decode cX3_tick 48 = .ok (.iconst 2, 1) := by decide +kernel
theorem dX3_tick_49 : decode cX3_tick 49 = .ok (.iload_n 2, 1) := by decide +kernel
theorem dX3_tick_50 : decode cX3_tick 50 = .ok (.imul, 1) := by decide +kernel
theorem dX3_tick_51 : decode cX3_tick 51 = .ok (.isub, 1) := by decide +kernel
theorem dX3_tick_52 : decode cX3_tick 52 = .ok (.bipush 8, 2) := by decide +kernel
theorem dX3_tick_54 : decode cX3_tick 54 = .ok (.idiv, 1) := by decide +kernel
theorem dX3_tick_55 : decode cX3_tick 55 = .ok (.iadd, 1) := by decide +kernel
theorem dX3_tick_56 : decode cX3_tick 56 = .ok (.istore_n 3, 1) := by decide +kernel
theorem dX3_tick_57 : decode cX3_tick 57 = .ok (.aload_n 0, 1) := by decide +kernel
theorem dX3_tick_58 : decode cX3_tick 58 = .ok (.getfield 11, 3) := by decide +kernel
theorem dX3_tick_61 : decode cX3_tick 61 = .ok (.iload_n 1, 1) := by decide +kernel
theorem dX3_tick_62 : decode cX3_tick 62 = .ok (.iconst 1, 1) := by decide +kernel
theorem dX3_tick_63 : decode cX3_tick 63 = .ok (.iadd, 1) := by decide +kernel
theorem dX3_tick_64 : decode cX3_tick 64 = .ok (.iload_n 3, 1) := by decide +kernel
theorem dX3_tick_65 : decode cX3_tick 65 = .ok (.iastore, 1) := by decide +kernel
theorem dX3_tick_66 : decode cX3_tick 66 = .ok (.iload_n 3, 1) := by decide +kernel
theorem dX3_tick_67 : decode cX3_tick 67 = .ok (.sipush 8000, 3) := by decide +kernel
theorem dX3_tick_70 : decode cX3_tick 70 = .ok (.if_icmp .le 20, 3) := by decide +kernel
theorem dX3_tick_73 : decode cX3_tick 73 = .ok (.aload_n 0, 1) := by decide +kernel
theorem dX3_tick_74 : decode cX3_tick 74 = .ok (.getfield 18, 3) := by decide +kernel
theorem dX3_tick_77 : decode cX3_tick 77 = .ok (.iload_n 1, 1) := by decide +kernel
theorem dX3_tick_78 : decode cX3_tick 78 = .ok (.dup2, 1) := by decide +kernel
theorem dX3_tick_79 : decode cX3_tick 79 = .ok (.iaload, 1) := by decide +kernel
theorem dX3_tick_80 : decode cX3_tick 80 = .ok (.iload_n 3, 1) := by decide +kernel
theorem dX3_tick_81 : decode cX3_tick 81 = .ok (.sipush 8000, 3) := by decide +kernel
theorem dX3_tick_84 : decode cX3_tick 84 = .ok (.isub, 1) := by decide +kernel
theorem dX3_tick_85 : decode cX3_tick 85 = .ok (.bipush 100, 2) := by decide +kernel
theorem dX3_tick_87 : decode cX3_tick 87 = .ok (.idiv, 1) := by decide +kernel
theorem dX3_tick_88 : decode cX3_tick 88 = .ok (.iadd, 1) := by decide +kernel
theorem dX3_tick_89 : decode cX3_tick 89 = .ok (.iastore, 1) := by decide +kernel
theorem dX3_tick_90 : decode cX3_tick 90 = .ok (.iinc 1 1, 3) := by decide +kernel
theorem dX3_tick_93 : decode cX3_tick 93 = .ok (.goto (-76), 3) := by decide +kernel
theorem dX3_tick_96 : decode cX3_tick 96 = .ok (.return_, 1) := by decide +kernel
theorem dX3_mayOpen_0 : decode cX3_mayOpen 0 = .ok (.iconst 0, 1) := by decide +kernel
theorem dX3_mayOpen_1 : decode cX3_mayOpen 1 = .ok (.istore_n 3, 1) := by decide +kernel
theorem dX3_mayOpen_2 : decode cX3_mayOpen 2 = .ok (.iload_n 3, 1) := by decide +kernel
theorem dX3_mayOpen_3 : decode cX3_mayOpen 3 = .ok (.bipush 9, 2) := by decide +kernel
theorem dX3_mayOpen_5 : decode cX3_mayOpen 5 = .ok (.if_icmp .ge 36, 3) := by decide +kernel
theorem dX3_mayOpen_8 : decode cX3_mayOpen 8 = .ok (.aload_n 0, 1) := by decide +kernel
theorem dX3_mayOpen_9 : decode cX3_mayOpen 9 = .ok (.getfield 18, 3) := by decide +kernel
theorem dX3_mayOpen_12 : decode cX3_mayOpen 12 = .ok (.iload_n 3, 1) := by decide +kernel
theorem dX3_mayOpen_13 : decode cX3_mayOpen 13 = .ok (.iaload, 1) := by decide +kernel
theorem dX3_mayOpen_14 : decode cX3_mayOpen 14 = .ok (.iload_n 1, 1) := by decide +kernel
theorem dX3_mayOpen_15 : decode cX3_mayOpen 15 = .ok (.if_icmp .lt 18, 3) := by decide +kernel
theorem dX3_mayOpen_18 : decode cX3_mayOpen 18 = .ok (.aload_n 0, 1) := by decide +kernel
theorem dX3_mayOpen_19 : decode cX3_mayOpen 19 = .ok (.iload_n 3, 1) := by decide +kernel
theorem dX3_mayOpen_20 : decode cX3_mayOpen 20 = .ok (.iload_n 2, 1) := by decide +kernel
theorem dX3_mayOpen_21 : decode cX3_mayOpen 21 = .ok (.invokevirtual 27, 3) := by decide +kernel
theorem dX3_mayOpen_24 : decode cX3_mayOpen 24 = .ok (.aload_n 0, 1) := by decide +kernel
theorem dX3_mayOpen_25 : decode cX3_mayOpen 25 = .ok (.getfield 18, 3) := by decide +kernel
theorem dX3_mayOpen_28 : decode cX3_mayOpen 28 = .ok (.iload_n 3, 1) := by decide +kernel
theorem dX3_mayOpen_29 : decode cX3_mayOpen 29 = .ok (.iaload, 1) := by decide +kernel
theorem dX3_mayOpen_30 : decode cX3_mayOpen 30 = .ok (.if_icmp .le 5, 3) := by decide +kernel
theorem dX3_mayOpen_33 : decode cX3_mayOpen 33 = .ok (.iconst 0, 1) := by decide +kernel
theorem dX3_mayOpen_34 : decode cX3_mayOpen 34 = .ok (.ireturn, 1) := by decide +kernel
theorem dX3_mayOpen_35 : decode cX3_mayOpen 35 = .ok (.iinc 3 1, 3) := by decide +kernel
theorem dX3_mayOpen_38 : decode cX3_mayOpen 38 = .ok (.goto (-36), 3) := by decide +kernel
theorem dX3_mayOpen_41 : decode cX3_mayOpen 41 = .ok (.iconst 1, 1) := by decide +kernel
theorem dX3_mayOpen_42 : decode cX3_mayOpen 42 = .ok (.ireturn, 1) := by decide +kernel
theorem dX3_heatOf_0 : decode cX3_heatOf 0 = .ok (.iload_n 1, 1) := by decide +kernel
theorem dX3_heatOf_1 : decode cX3_heatOf 1 = .ok (.ifCond .lt 20, 3) := by decide +kernel
theorem dX3_heatOf_4 : decode cX3_heatOf 4 = .ok (.iload_n 1, 1) := by decide +kernel
theorem dX3_heatOf_5 : decode cX3_heatOf 5 = .ok (.bipush 9, 2) := by decide +kernel
theorem dX3_heatOf_7 : decode cX3_heatOf 7 = .ok (.if_icmp .ge 14, 3) := by decide +kernel
theorem dX3_heatOf_10 : decode cX3_heatOf 10 = .ok (.aload_n 0, 1) := by decide +kernel
theorem dX3_heatOf_11 : decode cX3_heatOf 11 = .ok (.getfield 11, 3) := by decide +kernel
theorem dX3_heatOf_14 : decode cX3_heatOf 14 = .ok (.iload_n 1, 1) := by decide +kernel
theorem dX3_heatOf_15 : decode cX3_heatOf 15 = .ok (.iconst 1, 1) := by decide +kernel
theorem dX3_heatOf_16 : decode cX3_heatOf 16 = .ok (.iadd, 1) := by decide +kernel
theorem dX3_heatOf_17 : decode cX3_heatOf 17 = .ok (.iaload, 1) := by decide +kernel
theorem dX3_heatOf_18 : decode cX3_heatOf 18 = .ok (.goto 4, 3) := by decide +kernel
theorem dX3_heatOf_21 : decode cX3_heatOf 21 = .ok (.iconst (-1), 1) := by decide +kernel
theorem dX3_heatOf_22 : decode cX3_heatOf 22 = .ok (.ireturn, 1) := by decide +kernel
theorem dX3_cureOf_0 : decode cX3_cureOf 0 = .ok (.iload_n 1, 1) := by decide +kernel
theorem dX3_cureOf_1 : decode cX3_cureOf 1 = .ok (.ifCond .lt 18, 3) := by decide +kernel
theorem dX3_cureOf_4 : decode cX3_cureOf 4 = .ok (.iload_n 1, 1) := by decide +kernel
theorem dX3_cureOf_5 : decode cX3_cureOf 5 = .ok (.bipush 9, 2) := by decide +kernel
theorem dX3_cureOf_7 : decode cX3_cureOf 7 = .ok (.if_icmp .ge 12, 3) := by decide +kernel
theorem dX3_cureOf_10 : decode cX3_cureOf 10 = .ok (.aload_n 0, 1) := by decide +kernel
theorem dX3_cureOf_11 : decode cX3_cureOf 11 = .ok (.getfield 18, 3) := by decide +kernel
theorem dX3_cureOf_14 : decode cX3_cureOf 14 = .ok (.iload_n 1, 1) := by decide +kernel
theorem dX3_cureOf_15 : decode cX3_cureOf 15 = .ok (.iaload, 1) := by decide +kernel
theorem dX3_cureOf_16 : decode cX3_cureOf 16 = .ok (.goto 4, 3) := by decide +kernel
theorem dX3_cureOf_19 : decode cX3_cureOf 19 = .ok (.iconst (-1), 1) := by decide +kernel
theorem dX3_cureOf_20 : decode cX3_cureOf 20 = .ok (.ireturn, 1) := by decide +kernel
theorem dX3_steamOf_0 : decode cX3_steamOf 0 = .ok (.iload_n 1, 1) := by decide +kernel
theorem dX3_steamOf_1 : decode cX3_steamOf 1 = .ok (.ifCond .lt 9, 3) := by decide +kernel
theorem dX3_steamOf_4 : decode cX3_steamOf 4 = .ok (.iload_n 1, 1) := by decide +kernel
theorem dX3_steamOf_5 : decode cX3_steamOf 5 = .ok (.bipush 9, 2) := by decide +kernel
theorem dX3_steamOf_7 : decode cX3_steamOf 7 = .ok (.if_icmp .lt 5, 3) := by decide +kernel
theorem dX3_steamOf_10 : decode cX3_steamOf 10 = .ok (.iconst (-1), 1) := by decide +kernel
theorem dX3_steamOf_11 : decode cX3_steamOf 11 = .ok (.ireturn, 1) := by decide +kernel
theorem dX3_steamOf_12 : decode cX3_steamOf 12 = .ok (.aload_n 0, 1) := by decide +kernel
theorem dX3_steamOf_13 : decode cX3_steamOf 13 = .ok (.getfield 11, 3) := by decide +kernel
theorem dX3_steamOf_16 : decode cX3_steamOf 16 = .ok (.iload_n 1, 1) := by decide +kernel
theorem dX3_steamOf_17 : decode cX3_steamOf 17 = .ok (.iconst 1, 1) := by decide +kernel
theorem dX3_steamOf_18 : decode cX3_steamOf 18 = .ok (.iadd, 1) := by decide +kernel
theorem dX3_steamOf_19 : decode cX3_steamOf 19 = .ok (.iaload, 1) := by decide +kernel
theorem dX3_steamOf_20 : decode cX3_steamOf 20 = .ok (.sipush 10000, 3) := by decide +kernel
theorem dX3_steamOf_23 : decode cX3_steamOf 23 = .ok (.isub, 1) := by decide +kernel
theorem dX3_steamOf_24 : decode cX3_steamOf 24 = .ok (.istore_n 3, 1) := by decide +kernel
theorem dX3_steamOf_25 : decode cX3_steamOf 25 = .ok (.iload_n 3, 1) := by decide +kernel
theorem dX3_steamOf_26 : decode cX3_steamOf 26 = .ok (.ifCond .le 12, 3) := by decide +kernel
theorem dX3_steamOf_29 : decode cX3_steamOf 29 = .ok (.iload_n 3, 1) := by decide +kernel
theorem dX3_steamOf_30 : decode cX3_steamOf 30 = .ok (.iload_n 2, 1) := by decide +kernel
theorem dX3_steamOf_31 : decode cX3_steamOf 31 = .ok (.imul, 1) := by decide +kernel
theorem dX3_steamOf_32 : decode cX3_steamOf 32 = .ok (.bipush 100, 2) := by decide +kernel
theorem dX3_steamOf_34 : decode cX3_steamOf 34 = .ok (.idiv, 1) := by decide +kernel
theorem dX3_steamOf_35 : decode cX3_steamOf 35 = .ok (.goto 4, 3) := by decide +kernel
theorem dX3_steamOf_38 : decode cX3_steamOf 38 = .ok (.iconst 0, 1) := by decide +kernel
theorem dX3_steamOf_39 : decode cX3_steamOf 39 = .ok (.ireturn, 1) := by decide +kernel
theorem dX4_init_0 : decode cX4_init 0 = .ok (.aload_n 0, 1) := by decide +kernel
theorem dX4_init_1 : decode cX4_init 1 = .ok (.invokespecial 3, 3) := by decide +kernel
theorem dX4_init_4 : decode cX4_init 4 = .ok (.aload_n 0, 1) := by decide +kernel
theorem dX4_init_5 : decode cX4_init 5 = .ok (.iconst 0, 1) := by decide +kernel
theorem dX4_init_6 : decode cX4_init 6 = .ok (.putfield 9, 3) := by decide +kernel
theorem dX4_init_9 : decode cX4_init 9 = .ok (.aload_n 0, 1) := by decide +kernel
theorem dX4_init_10 : decode cX4_init 10 = .ok (.bipush 8, 2) := by decide +kernel
theorem dX4_init_12 : decode cX4_init 12 = .ok (.newarray .int, 2) := by decide +kernel
theorem dX4_init_14 : decode cX4_init 14 = .ok (.putfield 15, 3) := by decide +kernel
theorem dX4_init_17 : decode cX4_init 17 = .ok (.return_, 1) := by decide +kernel
theorem dX4_add_0 : decode cX4_add 0 = .ok (.aload_n 0, 1) := by decide +kernel
theorem dX4_add_1 : decode cX4_add 1 = .ok (.getfield 9, 3) := by decide +kernel
theorem dX4_add_4 : decode cX4_add 4 = .ok (.bipush 8, 2) := by decide +kernel
theorem dX4_add_6 : decode cX4_add 6 = .ok (.if_icmp .ge 14, 3) := by decide +kernel
theorem dX4_add_9 : decode cX4_add 9 = .ok (.iload_n 1, 1) := by decide +kernel
theorem dX4_add_10 : decode cX4_add 10 = .ok (.iconst 1, 1) := by decide +kernel
theorem dX4_add_11 : decode cX4_add 11 = .ok (.if_icmp .lt 9, 3) := by decide +kernel
theorem dX4_add_14 : decode cX4_add 14 = .ok (.iload_n 1, 1) := by decide +kernel
theorem dX4_add_15 : decode cX4_add 15 = .ok (.ldc 19, 2) := by decide +kernel
theorem dX4_add_17 : decode cX4_add 17 = .ok (.if_icmp .le 5, 3) := by decide +kernel
theorem dX4_add_20 : decode cX4_add 20 = .ok (.iconst (-1), 1) := by decide +kernel
theorem dX4_add_21 : decode cX4_add 21 = .ok (.ireturn, 1) := by decide +kernel
theorem dX4_add_22 : decode cX4_add 22 = .ok (.aload_n 0, 1) := by decide +kernel
theorem dX4_add_23 : decode cX4_add 23 = .ok (.getfield 15, 3) := by decide +kernel
theorem dX4_add_26 : decode cX4_add 26 = .ok (.aload_n 0, 1) := by decide +kernel
theorem dX4_add_27 : decode cX4_add 27 = .ok (.getfield 9, 3) := by decide +kernel
theorem dX4_add_30 : decode cX4_add 30 = .ok (.iload_n 1, 1) := by decide +kernel
theorem dX4_add_31 : decode cX4_add 31 = .ok (.iastore, 1) := by decide +kernel
theorem dX4_add_32 : decode cX4_add 32 = .ok (.aload_n 0, 1) := by decide +kernel
theorem dX4_add_33 : decode cX4_add 33 = .ok (.dup, 1) := by decide +kernel
theorem dX4_add_34 : decode cX4_add 34 = .ok (.getfield 9, 3) := by decide +kernel
theorem dX4_add_37 : decode cX4_add 37 = .ok (.iconst 1, 1) := by decide +kernel
theorem dX4_add_38 : decode cX4_add 38 = .ok (.iadd, 1) := by decide +kernel
theorem dX4_add_39 : decode cX4_add 39 = .ok (.putfield 9, 3) := by decide +kernel
theorem dX4_add_42 : decode cX4_add 42 = .ok (.aload_n 0, 1) := by decide +kernel
theorem dX4_add_43 : decode cX4_add 43 = .ok (.getfield 9, 3) := by decide +kernel
theorem dX4_add_46 : decode cX4_add 46 = .ok (.iconst 1, 1) := by decide +kernel
theorem dX4_add_47 : decode cX4_add 47 = .ok (.isub, 1) := by decide +kernel
theorem dX4_add_48 : decode cX4_add 48 = .ok (.ireturn, 1) := by decide +kernel
theorem dX4_has_0 : decode cX4_has 0 = .ok (.iload_n 1, 1) := by decide +kernel
theorem dX4_has_1 : decode cX4_has 1 = .ok (.ifCond .lt 15, 3) := by decide +kernel
theorem dX4_has_4 : decode cX4_has 4 = .ok (.iload_n 1, 1) := by decide +kernel
theorem dX4_has_5 : decode cX4_has 5 = .ok (.aload_n 0, 1) := by decide +kernel
theorem dX4_has_6 : decode cX4_has 6 = .ok (.getfield 9, 3) := by decide +kernel
theorem dX4_has_9 : decode cX4_has 9 = .ok (.if_icmp .ge 7, 3) := by decide +kernel
theorem dX4_has_12 : decode cX4_has 12 = .ok (.iconst 1, 1) := by decide +kernel
theorem dX4_has_13 : decode cX4_has 13 = .ok (.goto 4, 3) := by decide +kernel
theorem dX4_has_16 : decode cX4_has 16 = .ok (.iconst 0, 1) := by decide +kernel
theorem dX4_has_17 : decode cX4_has 17 = .ok (.ireturn, 1) := by decide +kernel
theorem dX4_gramsOf_0 : decode cX4_gramsOf 0 = .ok (.aload_n 0, 1) := by decide +kernel
theorem dX4_gramsOf_1 : decode cX4_gramsOf 1 = .ok (.iload_n 1, 1) := by decide +kernel
theorem dX4_gramsOf_2 : decode cX4_gramsOf 2 = .ok (.invokevirtual 20, 3) := by decide +kernel
theorem dX4_gramsOf_5 : decode cX4_gramsOf 5 = .ok (.ifCond .eq 12, 3) := by decide +kernel
theorem dX4_gramsOf_8 : decode cX4_gramsOf 8 = .ok (.aload_n 0, 1) := by decide +kernel
theorem dX4_gramsOf_9 : decode cX4_gramsOf 9 = .ok (.getfield 15, 3) := by decide +kernel
theorem dX4_gramsOf_12 : decode cX4_gramsOf 12 = .ok (.iload_n 1, 1) := by decide +kernel
theorem dX4_gramsOf_13 : decode cX4_gramsOf 13 = .ok (.iaload, 1) := by decide +kernel
theorem dX4_gramsOf_14 : decode cX4_gramsOf 14 = .ok (.goto 4, 3) := by decide +kernel
theorem dX4_gramsOf_17 : decode cX4_gramsOf 17 = .ok (.iconst (-1), 1) := by decide +kernel
theorem dX4_gramsOf_18 : decode cX4_gramsOf 18 = .ok (.ireturn, 1) := by decide +kernel
theorem dX4_total_0 : decode cX4_total 0 = .ok (.iconst 0, 1) := by decide +kernel
theorem dX4_total_1 : decode cX4_total 1 = .ok (.istore_n 1, 1) := by decide +kernel
theorem dX4_total_2 : decode cX4_total 2 = .ok (.iconst 0, 1) := by decide +kernel
theorem dX4_total_3 : decode cX4_total 3 = .ok (.istore_n 2, 1) := by decide +kernel
theorem dX4_total_4 : decode cX4_total 4 = .ok (.iload_n 2, 1) := by decide +kernel
theorem dX4_total_5 : decode cX4_total 5 = .ok (.aload_n 0, 1) := by decide +kernel
theorem dX4_total_6 : decode cX4_total 6 = .ok (.getfield 9, 3) := by decide +kernel
theorem dX4_total_9 : decode cX4_total 9 = .ok (.if_icmp .ge 24, 3) := by decide +kernel
theorem dX4_total_12 : decode cX4_total 12 = .ok (.iload_n 2, 1) := by decide +kernel
theorem dX4_total_13 : decode cX4_total 13 = .ok (.bipush 8, 2) := by decide +kernel
theorem dX4_total_15 : decode cX4_total 15 = .ok (.if_icmp .ge 18, 3) := by decide +kernel
theorem dX4_total_18 : decode cX4_total 18 = .ok (.iload_n 1, 1) := by decide +kernel
theorem dX4_total_19 : decode cX4_total 19 = .ok (.aload_n 0, 1) := by decide +kernel
theorem dX4_total_20 : decode cX4_total 20 = .ok (.getfield 15, 3) := by decide +kernel
theorem dX4_total_23 : decode cX4_total 23 = .ok (.iload_n 2, 1) := by decide +kernel
theorem dX4_total_24 : decode cX4_total 24 = .ok (.iaload, 1) := by decide +kernel
theorem dX4_total_25 : decode cX4_total 25 = .ok (.iadd, 1) := by decide +kernel
theorem dX4_total_26 : decode cX4_total 26 = .ok (.istore_n 1, 1) := by decide +kernel
theorem dX4_total_27 : decode cX4_total 27 = .ok (.iinc 2 1, 3) := by decide +kernel
theorem dX4_total_30 : decode cX4_total 30 = .ok (.goto (-26), 3) := by decide +kernel
theorem dX4_total_33 : decode cX4_total 33 = .ok (.iload_n 1, 1) := by decide +kernel
theorem dX4_total_34 : decode cX4_total 34 = .ok (.ireturn, 1) := by decide +kernel
theorem dX4_draw_0 : decode cX4_draw 0 = .ok (.iconst 0, 1) := by decide +kernel
theorem dX4_draw_1 : decode cX4_draw 1 = .ok (.istore_n 2, 1) := by decide +kernel
theorem dX4_draw_2 : decode cX4_draw 2 = .ok (.iload_n 1, 1) := by decide +kernel
theorem dX4_draw_3 : decode cX4_draw 3 = .ok (.istore_n 3, 1) := by decide +kernel
theorem dX4_draw_4 : decode cX4_draw 4 = .ok (.iconst 0, 1) := by decide +kernel
theorem dX4_draw_5 : decode cX4_draw 5 = .ok (.istore 4, 2) := by decide +kernel
theorem dX4_draw_7 : decode cX4_draw 7 = .ok (.iload 4, 2) := by decide +kernel
theorem dX4_draw_9 : decode cX4_draw 9 = .ok (.aload_n 0, 1) := by decide +kernel
theorem dX4_draw_10 : decode cX4_draw 10 = .ok (.getfield 9, 3) := by decide +kernel
theorem dX4_draw_13 : decode cX4_draw 13 = .ok (.if_icmp .ge 58, 3) := by decide +kernel
theorem dX4_draw_16 : decode cX4_draw 16 = .ok (.iload 4, 2) := by decide +kernel
theorem dX4_draw_18 : decode cX4_draw 18 = .ok (.bipush 8, 2) := by decide +kernel
theorem dX4_draw_20 : decode cX4_draw 20 = .ok (.if_icmp .ge 51, 3) := by decide +kernel
theorem dX4_draw_23 : decode cX4_draw 23 = .ok (.iload_n 3, 1) := by decide +kernel
theorem dX4_draw_24 : decode cX4_draw 24 = .ok (.aload_n 0, 1) := by decide +kernel
theorem dX4_draw_25 : decode cX4_draw 25 = .ok (.getfield 15, 3) := by decide +kernel
theorem dX4_draw_28 : decode cX4_draw 28 = .ok (.iload 4, 2) := by decide +kernel
theorem dX4_draw_30 : decode cX4_draw 30 = .ok (.iaload, 1) := by decide +kernel
theorem dX4_draw_31 : decode cX4_draw 31 = .ok (.invokestatic 24, 3) := by decide +kernel
theorem dX4_draw_34 : decode cX4_draw 34 = .ok (.istore 5, 2) := by decide +kernel
theorem dX4_draw_36 : decode cX4_draw 36 = .ok (.iload 5, 2) := by decide +kernel
theorem dX4_draw_38 : decode cX4_draw 38 = .ok (.ifCond .le 27, 3) := by decide +kernel
theorem dX4_draw_41 : decode cX4_draw 41 = .ok (.aload_n 0, 1) := by decide +kernel
theorem dX4_draw_42 : decode cX4_draw 42 = .ok (.getfield 15, 3) := by decide +kernel
theorem dX4_draw_45 : decode cX4_draw 45 = .ok (.iload 4, 2) := by decide +kernel
theorem dX4_draw_47 : decode cX4_draw 47 = .ok (.dup2, 1) := by decide +kernel
theorem dX4_draw_48 : decode cX4_draw 48 = .ok (.iaload, 1) := by decide +kernel
theorem dX4_draw_49 : decode cX4_draw 49 = .ok (.iload 5, 2) := by decide +kernel
theorem dX4_draw_51 : decode cX4_draw 51 = .ok (.isub, 1) := by decide +kernel
theorem dX4_draw_52 : decode cX4_draw 52 = .ok (.iastore, 1) := by decide +kernel
theorem dX4_draw_53 : decode cX4_draw 53 = .ok (.iload_n 3, 1) := by decide +kernel
theorem dX4_draw_54 : decode cX4_draw 54 = .ok (.iload 5, 2) := by decide +kernel
theorem dX4_draw_56 : decode cX4_draw 56 = .ok (.isub, 1) := by decide +kernel
theorem dX4_draw_57 : decode cX4_draw 57 = .ok (.istore_n 3, 1) := by decide +kernel
theorem dX4_draw_58 : decode cX4_draw 58 = .ok (.iload_n 2, 1) := by decide +kernel
theorem dX4_draw_59 : decode cX4_draw 59 = .ok (.iconst 1, 1) := by decide +kernel
theorem dX4_draw_60 : decode cX4_draw 60 = .ok (.iload 4, 2) := by decide +kernel
theorem dX4_draw_62 : decode cX4_draw 62 = .ok (.ishl, 1) := by decide +kernel
theorem dX4_draw_63 : decode cX4_draw 63 = .ok (.ior, 1) := by decide +kernel
theorem dX4_draw_64 : decode cX4_draw 64 = .ok (.istore_n 2, 1) := by decide +kernel
theorem dX4_draw_65 : decode cX4_draw 65 = .ok (.iinc 4 1, 3) := by decide +kernel
theorem dX4_draw_68 : decode cX4_draw 68 = .ok (.goto (-61), 3) := by decide +kernel
theorem dX4_draw_71 : decode cX4_draw 71 = .ok (.iload_n 2, 1) := by decide +kernel
theorem dX4_draw_72 : decode cX4_draw 72 = .ok (.ireturn, 1) := by decide +kernel
theorem dX4_copyFrom_0 : decode cX4_copyFrom 0 = .ok (.aload_n 0, 1) := by decide +kernel
theorem dX4_copyFrom_1 : decode cX4_copyFrom 1 = .ok (.aload_n 1, 1) := by decide +kernel
theorem dX4_copyFrom_2 : decode cX4_copyFrom 2 = .ok (.getfield 9, 3) := by decide +kernel
theorem dX4_copyFrom_5 : decode cX4_copyFrom 5 = .ok (.putfield 9, 3) := by decide +kernel
theorem dX4_copyFrom_8 : decode cX4_copyFrom 8 = .ok (.aload_n 1, 1) := by decide +kernel
theorem dX4_copyFrom_9 : decode cX4_copyFrom 9 = .ok (.getfield 15, 3) := by decide +kernel
theorem dX4_copyFrom_12 : decode cX4_copyFrom 12 = .ok (.iconst 0, 1) := by decide +kernel
theorem dX4_copyFrom_13 : decode cX4_copyFrom 13 = .ok (.aload_n 0, 1) := by decide +kernel
theorem dX4_copyFrom_14 : decode cX4_copyFrom 14 = .ok (.getfield 15, 3) := by decide +kernel
theorem dX4_copyFrom_17 : decode cX4_copyFrom 17 = .ok (.iconst 0, 1) := by decide +kernel
theorem dX4_copyFrom_18 : decode cX4_copyFrom 18 = .ok (.bipush 8, 2) := by decide +kernel
theorem dX4_copyFrom_20 : decode cX4_copyFrom 20 = .ok (.invokestatic 30, 3) := by decide +kernel
theorem dX4_copyFrom_23 : decode cX4_copyFrom 23 = .ok (.return_, 1) := by decide +kernel
theorem dX5_init_0 : decode cX5_init 0 = .ok (.aload_n 0, 1) := by decide +kernel
theorem dX5_init_1 : decode cX5_init 1 = .ok (.invokespecial 3, 3) := by decide +kernel
theorem dX5_init_4 : decode cX5_init 4 = .ok (.aload_n 0, 1) := by decide +kernel
theorem dX5_init_5 : decode cX5_init 5 = .ok (.iconst 0, 1) := by decide +kernel
theorem dX5_init_6 : decode cX5_init 6 = .ok (.putfield 9, 3) := by decide +kernel
theorem dX5_init_9 : decode cX5_init 9 = .ok (.aload_n 0, 1) := by decide +kernel
theorem dX5_init_10 : decode cX5_init 10 = .ok (.sipush 192, 3) := by decide +kernel
theorem dX5_init_13 : decode cX5_init 13 = .ok (.newarray .int, 2) := by decide +kernel
theorem dX5_init_15 : decode cX5_init 15 = .ok (.putfield 15, 3) := by decide +kernel
theorem dX5_init_18 : decode cX5_init 18 = .ok (.return_, 1) := by decide +kernel
theorem dX5_isFull_0 : decode cX5_isFull 0 = .ok (.aload_n 0, 1) := by decide +kernel
theorem dX5_isFull_1 : decode cX5_isFull 1 = .ok (.getfield 9, 3) := by decide +kernel
theorem dX5_isFull_4 : decode cX5_isFull 4 = .ok (.bipush 24, 2) := by decide +kernel
theorem dX5_isFull_6 : decode cX5_isFull 6 = .ok (.if_icmp .lt 7, 3) := by decide +kernel
theorem dX5_isFull_9 : decode cX5_isFull 9 = .ok (.iconst 1, 1) := by decide +kernel
theorem dX5_isFull_10 : decode cX5_isFull 10 = .ok (.goto 4, 3) := by decide +kernel
theorem dX5_isFull_13 : decode cX5_isFull 13 = .ok (.iconst 0, 1) := by decide +kernel
theorem dX5_isFull_14 : decode cX5_isFull 14 = .ok (.ireturn, 1) := by decide +kernel
theorem dX5_add_0 : decode cX5_add 0 = .ok (.aload_n 0, 1) := by decide +kernel
theorem dX5_add_1 : decode cX5_add 1 = .ok (.invokevirtual 19, 3) := by decide +kernel
theorem dX5_add_4 : decode cX5_add 4 = .ok (.ifCond .eq 5, 3) := by decide +kernel
theorem dX5_add_7 : decode cX5_add 7 = .ok (.iconst (-1), 1) := by decide +kernel
theorem dX5_add_8 : decode cX5_add 8 = .ok (.ireturn, 1) := by decide +kernel
theorem dX5_add_9 : decode cX5_add 9 = .ok (.aload_n 0, 1) := by decide +kernel
theorem dX5_add_10 : decode cX5_add 10 = .ok (.dup, 1) := by decide +kernel
theorem dX5_add_11 : decode cX5_add 11 = .ok (.getfield 9, 3) := by decide +kernel
theorem dX5_add_14 : decode cX5_add 14 = .ok (.iconst 1, 1) := by decide +kernel
theorem dX5_add_15 : decode cX5_add 15 = .ok (.iadd, 1) := by decide +kernel
theorem dX5_add_16 : decode cX5_add 16 = .ok (.putfield 9, 3) := by decide +kernel
theorem dX5_add_19 : decode cX5_add 19 = .ok (.aload_n 0, 1) := by decide +kernel
theorem dX5_add_20 : decode cX5_add 20 = .ok (.getfield 9, 3) := by decide +kernel
theorem dX5_add_23 : decode cX5_add 23 = .ok (.iconst 1, 1) := by decide +kernel
theorem dX5_add_24 : decode cX5_add 24 = .ok (.isub, 1) := by decide +kernel
theorem dX5_add_25 : decode cX5_add 25 = .ok (.ireturn, 1) := by decide +kernel
theorem dX5_has_0 : decode cX5_has 0 = .ok (.iload_n 1, 1) := by decide +kernel
theorem dX5_has_1 : decode cX5_has 1 = .ok (.ifCond .lt 15, 3) := by decide +kernel
theorem dX5_has_4 : decode cX5_has 4 = .ok (.iload_n 1, 1) := by decide +kernel
theorem dX5_has_5 : decode cX5_has 5 = .ok (.aload_n 0, 1) := by decide +kernel
theorem dX5_has_6 : decode cX5_has 6 = .ok (.getfield 9, 3) := by decide +kernel
theorem dX5_has_9 : decode cX5_has 9 = .ok (.if_icmp .ge 7, 3) := by decide +kernel
theorem dX5_has_12 : decode cX5_has 12 = .ok (.iconst 1, 1) := by decide +kernel
theorem dX5_has_13 : decode cX5_has 13 = .ok (.goto 4, 3) := by decide +kernel
theorem dX5_has_16 : decode cX5_has 16 = .ok (.iconst 0, 1) := by decide +kernel
theorem dX5_has_17 : decode cX5_has 17 = .ok (.ireturn, 1) := by decide +kernel
theorem dX5_get_0 : decode cX5_get 0 = .ok (.aload_n 0, 1) := by decide +kernel
theorem dX5_get_1 : decode cX5_get 1 = .ok (.iload_n 1, 1) := by decide +kernel
theorem dX5_get_2 : decode cX5_get 2 = .ok (.invokevirtual 23, 3) := by decide +kernel
theorem dX5_get_5 : decode cX5_get 5 = .ok (.ifCond .eq 27, 3) := by decide +kernel
theorem dX5_get_8 : decode cX5_get 8 = .ok (.iload_n 2, 1) := by decide +kernel
theorem dX5_get_9 : decode cX5_get 9 = .ok (.ifCond .lt 23, 3) := by decide +kernel
theorem dX5_get_12 : decode cX5_get 12 = .ok (.iload_n 2, 1) := by decide +kernel
theorem dX5_get_13 : decode cX5_get 13 = .ok (.bipush 8, 2) := by decide +kernel
theorem dX5_get_15 : decode cX5_get 15 = .ok (.if_icmp .ge 17, 3) := by decide +kernel
theorem dX5_get_18 : decode cX5_get 18 = .ok (.aload_n 0, 1) := by decide +kernel
theorem dX5_get_19 : decode cX5_get 19 = .ok (.getfield 15, 3) := by decide +kernel
theorem dX5_get_22 : decode cX5_get 22 = .ok (.iload_n 1, 1) := by decide +kernel
theorem dX5_get_23 : decode cX5_get 23 = .ok (.bipush 8, 2) := by decide +kernel
theorem dX5_get_25 : decode cX5_get 25 = .ok (.imul, 1) := by decide +kernel
theorem dX5_get_26 : decode cX5_get 26 = .ok (.iload_n 2, 1) := by decide +kernel
theorem dX5_get_27 : decode cX5_get 27 = .ok (.iadd, 1) := by decide +kernel
theorem dX5_get_28 : decode cX5_get 28 = .ok (.iaload, 1) := by decide +kernel
theorem dX5_get_29 : decode cX5_get 29 = .ok (.goto 4, 3) := by decide +kernel
theorem dX5_get_32 : decode cX5_get 32 = .ok (.iconst (-1), 1) := by decide +kernel
theorem dX5_get_33 : decode cX5_get 33 = .ok (.ireturn, 1) := by decide +kernel
theorem dX5_put_0 : decode cX5_put 0 = .ok (.aload_n 0, 1) := by decide +kernel
theorem dX5_put_1 : decode cX5_put 1 = .ok (.iload_n 1, 1) := by decide +kernel
theorem dX5_put_2 : decode cX5_put 2 = .ok (.invokevirtual 23, 3) := by decide +kernel
theorem dX5_put_5 : decode cX5_put 5 = .ok (.ifCond .eq 25, 3) := by decide +kernel
theorem dX5_put_8 : decode cX5_put 8 = .ok (.iload_n 2, 1) := by decide +kernel
theorem dX5_put_9 : decode cX5_put 9 = .ok (.ifCond .lt 21, 3) := by decide +kernel
theorem dX5_put_12 : decode cX5_put 12 = .ok (.iload_n 2, 1) := by decide +kernel
theorem dX5_put_13 : decode cX5_put 13 = .ok (.bipush 8, 2) := by decide +kernel
theorem dX5_put_15 : decode cX5_put 15 = .ok (.if_icmp .ge 15, 3) := by decide +kernel
theorem dX5_put_18 : decode cX5_put 18 = .ok (.aload_n 0, 1) := by decide +kernel
theorem dX5_put_19 : decode cX5_put 19 = .ok (.getfield 15, 3) := by decide +kernel
theorem dX5_put_22 : decode cX5_put 22 = .ok (.iload_n 1, 1) := by decide +kernel
theorem dX5_put_23 : decode cX5_put 23 = .ok (.bipush 8, 2) := by decide +kernel
theorem dX5_put_25 : decode cX5_put 25 = .ok (.imul, 1) := by decide +kernel
theorem dX5_put_26 : decode cX5_put 26 = .ok (.iload_n 2, 1) := by decide +kernel
theorem dX5_put_27 : decode cX5_put 27 = .ok (.iadd, 1) := by decide +kernel
theorem dX5_put_28 : decode cX5_put 28 = .ok (.iload_n 3, 1) := by decide +kernel
theorem dX5_put_29 : decode cX5_put 29 = .ok (.iastore, 1) := by decide +kernel
theorem dX5_put_30 : decode cX5_put 30 = .ok (.return_, 1) := by decide +kernel
theorem dX5_isPressed_0 : decode cX5_isPressed 0 = .ok (.aload_n 0, 1) := by decide +kernel
theorem dX5_isPressed_1 : decode cX5_isPressed 1 = .ok (.iload_n 1, 1) := by decide +kernel
theorem dX5_isPressed_2 : decode cX5_isPressed 2 = .ok (.bipush 7, 2) := by decide +kernel
theorem dX5_isPressed_4 : decode cX5_isPressed 4 = .ok (.invokevirtual 27, 3) := by decide +kernel
theorem dX5_isPressed_7 : decode cX5_isPressed 7 = .ok (.iconst (-1), 1) := by decide +kernel
theorem dX5_isPressed_8 : decode cX5_isPressed 8 = .ok (.if_icmp .eq 7, 3) := by decide +kernel
theorem dX5_isPressed_11 : decode cX5_isPressed 11 = .ok (.iconst 1, 1) := by decide +kernel
theorem dX5_isPressed_12 : decode cX5_isPressed 12 = .ok (.goto 4, 3) := by decide +kernel
theorem dX5_isPressed_15 : decode cX5_isPressed 15 = .ok (.iconst 0, 1) := by decide +kernel
theorem dX5_isPressed_16 : decode cX5_isPressed 16 = .ok (.ireturn, 1) := by decide +kernel
theorem dX5_pressed_0 : decode cX5_pressed 0 = .ok (.iconst 0, 1) := by decide +kernel
theorem dX5_pressed_1 : decode cX5_pressed 1 = .ok (.istore_n 1, 1) := by decide +kernel
theorem dX5_pressed_2 : decode cX5_pressed 2 = .ok (.iconst 0, 1) := by decide +kernel
theorem dX5_pressed_3 : decode cX5_pressed 3 = .ok (.istore_n 2, 1) := by decide +kernel
theorem dX5_pressed_4 : decode cX5_pressed 4 = .ok (.iload_n 2, 1) := by decide +kernel
theorem dX5_pressed_5 : decode cX5_pressed 5 = .ok (.aload_n 0, 1) := by decide +kernel
theorem dX5_pressed_6 : decode cX5_pressed 6 = .ok (.getfield 9, 3) := by decide +kernel
theorem dX5_pressed_9 : decode cX5_pressed 9 = .ok (.if_icmp .ge 26, 3) := by decide +kernel
theorem dX5_pressed_12 : decode cX5_pressed 12 = .ok (.iload_n 2, 1) := by decide +kernel
theorem dX5_pressed_13 : decode cX5_pressed 13 = .ok (.bipush 24, 2) := by decide +kernel
theorem dX5_pressed_15 : decode cX5_pressed 15 = .ok (.if_icmp .ge 20, 3) := by decide +kernel
theorem dX5_pressed_18 : decode cX5_pressed 18 = .ok (.aload_n 0, 1) := by decide +kernel
theorem dX5_pressed_19 : decode cX5_pressed 19 = .ok (.iload_n 2, 1) := by decide +kernel
theorem dX5_pressed_20 : decode cX5_pressed 20 = .ok (.invokevirtual 31, 3) := by decide +kernel
theorem dX5_pressed_23 : decode cX5_pressed 23 = .ok (.ifCond .eq 6, 3) := by decide +kernel
theorem dX5_pressed_26 : decode cX5_pressed 26 = .ok (.iinc 1 1, 3) := by decide +kernel
theorem dX5_pressed_29 : decode cX5_pressed 29 = .ok (.iinc 2 1, 3) := by decide +kernel
theorem dX5_pressed_32 : decode cX5_pressed 32 = .ok (.goto (-28), 3) := by decide +kernel
theorem dX5_pressed_35 : decode cX5_pressed 35 = .ok (.iload_n 1, 1) := by decide +kernel
theorem dX5_pressed_36 : decode cX5_pressed 36 = .ok (.ireturn, 1) := by decide +kernel
theorem dX5_withLot_0 : decode cX5_withLot 0 = .ok (.iconst 0, 1) := by decide +kernel
theorem dX5_withLot_1 : decode cX5_withLot 1 = .ok (.istore_n 2, 1) := by decide +kernel
theorem dX5_withLot_2 : decode cX5_withLot 2 = .ok (.iconst 0, 1) := by decide +kernel
theorem dX5_withLot_3 : decode cX5_withLot 3 = .ok (.istore_n 3, 1) := by decide +kernel
theorem dX5_withLot_4 : decode cX5_withLot 4 = .ok (.iload_n 3, 1) := by decide +kernel
theorem dX5_withLot_5 : decode cX5_withLot 5 = .ok (.aload_n 0, 1) := by decide +kernel
theorem dX5_withLot_6 : decode cX5_withLot 6 = .ok (.getfield 9, 3) := by decide +kernel
theorem dX5_withLot_9 : decode cX5_withLot 9 = .ok (.if_icmp .ge 35, 3) := by decide +kernel
theorem dX5_withLot_12 : decode cX5_withLot 12 = .ok (.iload_n 3, 1) := by decide +kernel
theorem dX5_withLot_13 : decode cX5_withLot 13 = .ok (.bipush 24, 2) := by decide +kernel
theorem dX5_withLot_15 : decode cX5_withLot 15 = .ok (.if_icmp .ge 29, 3) := by decide +kernel
theorem dX5_withLot_18 : decode cX5_withLot 18 = .ok (.aload_n 0, 1) := by decide +kernel
theorem dX5_withLot_19 : decode cX5_withLot 19 = .ok (.iload_n 3, 1) := by decide +kernel
theorem dX5_withLot_20 : decode cX5_withLot 20 = .ok (.bipush 6, 2) := by decide +kernel
theorem dX5_withLot_22 : decode cX5_withLot 22 = .ok (.invokevirtual 27, 3) := by decide +kernel
theorem dX5_withLot_25 : decode cX5_withLot 25 = .ok (.iload_n 1, 1) := by decide +kernel
theorem dX5_withLot_26 : decode cX5_withLot 26 = .ok (.ishr, 1) := by decide +kernel
theorem dX5_withLot_27 : decode cX5_withLot 27 = .ok (.iconst 1, 1) := by decide +kernel
theorem dX5_withLot_28 : decode cX5_withLot 28 = .ok (.iand, 1) := by decide +kernel
theorem dX5_withLot_29 : decode cX5_withLot 29 = .ok (.ifCond .eq 9, 3) := by decide +kernel
theorem dX5_withLot_32 : decode cX5_withLot 32 = .ok (.iload_n 2, 1) := by decide +kernel
theorem dX5_withLot_33 : decode cX5_withLot 33 = .ok (.iconst 1, 1) := by decide +kernel
theorem dX5_withLot_34 : decode cX5_withLot 34 = .ok (.iload_n 3, 1) := by decide +kernel
theorem dX5_withLot_35 : decode cX5_withLot 35 = .ok (.ishl, 1) := by decide +kernel
theorem dX5_withLot_36 : decode cX5_withLot 36 = .ok (.ior, 1) := by decide +kernel
theorem dX5_withLot_37 : decode cX5_withLot 37 = .ok (.istore_n 2, 1) := by decide +kernel
theorem dX5_withLot_38 : decode cX5_withLot 38 = .ok (.iinc 3 1, 3) := by decide +kernel
theorem dX5_withLot_41 : decode cX5_withLot 41 = .ok (.goto (-37), 3) := by decide +kernel
theorem dX5_withLot_44 : decode cX5_withLot 44 = .ok (.iload_n 2, 1) := by decide +kernel
theorem dX5_withLot_45 : decode cX5_withLot 45 = .ok (.ireturn, 1) := by decide +kernel
theorem dX5_copyFrom_0 : decode cX5_copyFrom 0 = .ok (.aload_n 0, 1) := by decide +kernel
theorem dX5_copyFrom_1 : decode cX5_copyFrom 1 = .ok (.aload_n 1, 1) := by decide +kernel
theorem dX5_copyFrom_2 : decode cX5_copyFrom 2 = .ok (.getfield 9, 3) := by decide +kernel
theorem dX5_copyFrom_5 : decode cX5_copyFrom 5 = .ok (.putfield 9, 3) := by decide +kernel
theorem dX5_copyFrom_8 : decode cX5_copyFrom 8 = .ok (.aload_n 1, 1) := by decide +kernel
theorem dX5_copyFrom_9 : decode cX5_copyFrom 9 = .ok (.getfield 15, 3) := by decide +kernel
theorem dX5_copyFrom_12 : decode cX5_copyFrom 12 = .ok (.iconst 0, 1) := by decide +kernel
theorem dX5_copyFrom_13 : decode cX5_copyFrom 13 = .ok (.aload_n 0, 1) := by decide +kernel
theorem dX5_copyFrom_14 : decode cX5_copyFrom 14 = .ok (.getfield 15, 3) := by decide +kernel
theorem dX5_copyFrom_17 : decode cX5_copyFrom 17 = .ok (.iconst 0, 1) := by decide +kernel
theorem dX5_copyFrom_18 : decode cX5_copyFrom 18 = .ok (.sipush 192, 3) := by decide +kernel
theorem dX5_copyFrom_21 : decode cX5_copyFrom 21 = .ok (.invokestatic 34, 3) := by decide +kernel
theorem dX5_copyFrom_24 : decode cX5_copyFrom 24 = .ok (.return_, 1) := by decide +kernel
theorem dX6_init_0 : decode cX6_init 0 = .ok (.aload_n 0, 1) := by decide +kernel
theorem dX6_init_1 : decode cX6_init 1 = .ok (.invokespecial 3, 3) := by decide +kernel
theorem dX6_init_4 : decode cX6_init 4 = .ok (.aload_n 0, 1) := by decide +kernel
theorem dX6_init_5 : decode cX6_init 5 = .ok (.iconst 0, 1) := by decide +kernel
theorem dX6_init_6 : decode cX6_init 6 = .ok (.putfield 9, 3) := by decide +kernel
theorem dX6_init_9 : decode cX6_init 9 = .ok (.aload_n 0, 1) := by decide +kernel
theorem dX6_init_10 : decode cX6_init 10 = .ok (.iconst 4, 1) := by decide +kernel
theorem dX6_init_11 : decode cX6_init 11 = .ok (.newarray .int, 2) := by decide +kernel
theorem dX6_init_13 : decode cX6_init 13 = .ok (.putfield 15, 3) := by decide +kernel
theorem dX6_init_16 : decode cX6_init 16 = .ok (.return_, 1) := by decide +kernel
theorem dX6_add_0 : decode cX6_add 0 = .ok (.aload_n 0, 1) := by decide +kernel
theorem dX6_add_1 : decode cX6_add 1 = .ok (.getfield 9, 3) := by decide +kernel
theorem dX6_add_4 : decode cX6_add 4 = .ok (.iconst 4, 1) := by decide +kernel
theorem dX6_add_5 : decode cX6_add 5 = .ok (.if_icmp .ge 16, 3) := by decide +kernel
theorem dX6_add_8 : decode cX6_add 8 = .ok (.iload_n 1, 1) := by decide +kernel
theorem dX6_add_9 : decode cX6_add 9 = .ok (.bipush 100, 2) := by decide +kernel
theorem dX6_add_11 : decode cX6_add 11 = .ok (.if_icmp .lt 10, 3) := by decide +kernel
theorem dX6_add_14 : decode cX6_add 14 = .ok (.iload_n 1, 1) := by decide +kernel
theorem dX6_add_15 : decode cX6_add 15 = .ok (.sipush 250, 3) := by decide +kernel
theorem dX6_add_18 : decode cX6_add 18 = .ok (.if_icmp .le 5, 3) := by decide +kernel
theorem dX6_add_21 : decode cX6_add 21 = .ok (.iconst (-1), 1) := by decide +kernel
theorem dX6_add_22 : decode cX6_add 22 = .ok (.ireturn, 1) := by decide +kernel
theorem dX6_add_23 : decode cX6_add 23 = .ok (.aload_n 0, 1) := by decide +kernel
theorem dX6_add_24 : decode cX6_add 24 = .ok (.getfield 15, 3) := by decide +kernel
theorem dX6_add_27 : decode cX6_add 27 = .ok (.aload_n 0, 1) := by decide +kernel
theorem dX6_add_28 : decode cX6_add 28 = .ok (.getfield 9, 3) := by decide +kernel
theorem dX6_add_31 : decode cX6_add 31 = .ok (.iload_n 1, 1) := by decide +kernel
theorem dX6_add_32 : decode cX6_add 32 = .ok (.iastore, 1) := by decide +kernel
theorem dX6_add_33 : decode cX6_add 33 = .ok (.aload_n 0, 1) := by decide +kernel
theorem dX6_add_34 : decode cX6_add 34 = .ok (.dup, 1) := by decide +kernel
theorem dX6_add_35 : decode cX6_add 35 = .ok (.getfield 9, 3) := by decide +kernel
theorem dX6_add_38 : decode cX6_add 38 = .ok (.iconst 1, 1) := by decide +kernel
theorem dX6_add_39 : decode cX6_add 39 = .ok (.iadd, 1) := by decide +kernel
theorem dX6_add_40 : decode cX6_add 40 = .ok (.putfield 9, 3) := by decide +kernel
theorem dX6_add_43 : decode cX6_add 43 = .ok (.aload_n 0, 1) := by decide +kernel
theorem dX6_add_44 : decode cX6_add 44 = .ok (.getfield 9, 3) := by decide +kernel
theorem dX6_add_47 : decode cX6_add 47 = .ok (.iconst 1, 1) := by decide +kernel
theorem dX6_add_48 : decode cX6_add 48 = .ok (.isub, 1) := by decide +kernel
theorem dX6_add_49 : decode cX6_add 49 = .ok (.ireturn, 1) := by decide +kernel
theorem dX6_has_0 : decode cX6_has 0 = .ok (.iload_n 1, 1) := by decide +kernel
theorem dX6_has_1 : decode cX6_has 1 = .ok (.ifCond .lt 15, 3) := by decide +kernel
theorem dX6_has_4 : decode cX6_has 4 = .ok (.iload_n 1, 1) := by decide +kernel
theorem dX6_has_5 : decode cX6_has 5 = .ok (.aload_n 0, 1) := by decide +kernel
theorem dX6_has_6 : decode cX6_has 6 = .ok (.getfield 9, 3) := by decide +kernel
theorem dX6_has_9 : decode cX6_has 9 = .ok (.if_icmp .ge 7, 3) := by decide +kernel
theorem dX6_has_12 : decode cX6_has 12 = .ok (.iconst 1, 1) := by decide +kernel
theorem dX6_has_13 : decode cX6_has 13 = .ok (.goto 4, 3) := by decide +kernel
theorem dX6_has_16 : decode cX6_has 16 = .ok (.iconst 0, 1) := by decide +kernel
theorem dX6_has_17 : decode cX6_has 17 = .ok (.ireturn, 1) := by decide +kernel
theorem dX6_heatOf_0 : decode cX6_heatOf 0 = .ok (.aload_n 0, 1) := by decide +kernel
theorem dX6_heatOf_1 : decode cX6_heatOf 1 = .ok (.iload_n 1, 1) := by decide +kernel
theorem dX6_heatOf_2 : decode cX6_heatOf 2 = .ok (.invokevirtual 19, 3) := by decide +kernel
theorem dX6_heatOf_5 : decode cX6_heatOf 5 = .ok (.ifCond .eq 12, 3) := by decide +kernel
theorem dX6_heatOf_8 : decode cX6_heatOf 8 = .ok (.aload_n 0, 1) := by decide +kernel
theorem dX6_heatOf_9 : decode cX6_heatOf 9 = .ok (.getfield 15, 3) := by decide +kernel
theorem dX6_heatOf_12 : decode cX6_heatOf 12 = .ok (.iload_n 1, 1) := by decide +kernel
theorem dX6_heatOf_13 : decode cX6_heatOf 13 = .ok (.iaload, 1) := by decide +kernel
theorem dX6_heatOf_14 : decode cX6_heatOf 14 = .ok (.goto 4, 3) := by decide +kernel
theorem dX6_heatOf_17 : decode cX6_heatOf 17 = .ok (.iconst (-1), 1) := by decide +kernel
theorem dX6_heatOf_18 : decode cX6_heatOf 18 = .ok (.ireturn, 1) := by decide +kernel
theorem dX6_copyFrom_0 : decode cX6_copyFrom 0 = .ok (.aload_n 0, 1) := by decide +kernel
theorem dX6_copyFrom_1 : decode cX6_copyFrom 1 = .ok (.aload_n 1, 1) := by decide +kernel
theorem dX6_copyFrom_2 : decode cX6_copyFrom 2 = .ok (.getfield 9, 3) := by decide +kernel
theorem dX6_copyFrom_5 : decode cX6_copyFrom 5 = .ok (.putfield 9, 3) := by decide +kernel
theorem dX6_copyFrom_8 : decode cX6_copyFrom 8 = .ok (.aload_n 1, 1) := by decide +kernel
theorem dX6_copyFrom_9 : decode cX6_copyFrom 9 = .ok (.getfield 15, 3) := by decide +kernel
theorem dX6_copyFrom_12 : decode cX6_copyFrom 12 = .ok (.iconst 0, 1) := by decide +kernel
theorem dX6_copyFrom_13 : decode cX6_copyFrom 13 = .ok (.aload_n 0, 1) := by decide +kernel
theorem dX6_copyFrom_14 : decode cX6_copyFrom 14 = .ok (.getfield 15, 3) := by decide +kernel
theorem dX6_copyFrom_17 : decode cX6_copyFrom 17 = .ok (.iconst 0, 1) := by decide +kernel
theorem dX6_copyFrom_18 : decode cX6_copyFrom 18 = .ok (.iconst 4, 1) := by decide +kernel
theorem dX6_copyFrom_19 : decode cX6_copyFrom 19 = .ok (.invokestatic 23, 3) := by decide +kernel
theorem dX6_copyFrom_22 : decode cX6_copyFrom 22 = .ok (.return_, 1) := by decide +kernel
theorem dX7_init_0 : decode cX7_init 0 = .ok (.aload_n 0, 1) := by decide +kernel
theorem dX7_init_1 : decode cX7_init 1 = .ok (.invokespecial 7, 3) := by decide +kernel
theorem dX7_init_4 : decode cX7_init 4 = .ok (.aload_n 0, 1) := by decide +kernel
theorem dX7_init_5 : decode cX7_init 5 = .ok (.bipush 32, 2) := by decide +kernel
theorem dX7_init_7 : decode cX7_init 7 = .ok (.newarray .boolean, 2) := by decide +kernel
theorem dX7_init_9 : decode cX7_init 9 = .ok (.putfield 13, 3) := by decide +kernel
theorem dX7_init_12 : decode cX7_init 12 = .ok (.aload_n 0, 1) := by decide +kernel
theorem dX7_init_13 : decode cX7_init 13 = .ok (.bipush 32, 2) := by decide +kernel
theorem dX7_init_15 : decode cX7_init 15 = .ok (.newarray .int, 2) := by decide +kernel
theorem dX7_init_17 : decode cX7_init 17 = .ok (.putfield 17, 3) := by decide +kernel
theorem dX7_init_20 : decode cX7_init 20 = .ok (.aload_n 0, 1) := by decide +kernel
theorem dX7_init_21 : decode cX7_init 21 = .ok (.bipush 32, 2) := by decide +kernel
theorem dX7_init_23 : decode cX7_init 23 = .ok (.newarray .int, 2) := by decide +kernel
theorem dX7_init_25 : decode cX7_init 25 = .ok (.putfield 21, 3) := by decide +kernel
theorem dX7_init_28 : decode cX7_init 28 = .ok (.aload_n 0, 1) := by decide +kernel
theorem dX7_init_29 : decode cX7_init 29 = .ok (.bipush 32, 2) := by decide +kernel
theorem dX7_init_31 : decode cX7_init 31 = .ok (.newarray .int, 2) := by decide +kernel
theorem dX7_init_33 : decode cX7_init 33 = .ok (.putfield 24, 3) := by decide +kernel
theorem dX7_init_36 : decode cX7_init 36 = .ok (.aload_n 0, 1) := by decide +kernel
theorem dX7_init_37 : decode cX7_init 37 = .ok (.bipush 32, 2) := by decide +kernel
theorem dX7_init_39 : decode cX7_init 39 = .ok (.newarray .int, 2) := by decide +kernel
theorem dX7_init_41 : decode cX7_init 41 = .ok (.putfield 27, 3) := by decide +kernel
theorem dX7_init_44 : decode cX7_init 44 = .ok (.aload_n 0, 1) := by decide +kernel
theorem dX7_init_45 : decode cX7_init 45 = .ok (.iconst 0, 1) := by decide +kernel
theorem dX7_init_46 : decode cX7_init 46 = .ok (.putfield 30, 3) := by decide +kernel
theorem dX7_init_49 : decode cX7_init 49 = .ok (.return_, 1) := by decide +kernel
theorem dX7_find_0 : decode cX7_find 0 = .ok (.iconst 0, 1) := by decide +kernel
theorem dX7_find_1 : decode cX7_find 1 = .ok (.istore_n 2, 1) := by decide +kernel
theorem dX7_find_2 : decode cX7_find 2 = .ok (.iload_n 2, 1) := by decide +kernel
theorem dX7_find_3 : decode cX7_find 3 = .ok (.bipush 32, 2) := by decide +kernel
theorem dX7_find_5 : decode cX7_find 5 = .ok (.if_icmp .ge 16, 3) := by decide +kernel
theorem dX7_find_8 : decode cX7_find 8 = .ok (.aload_n 0, 1) := by decide +kernel
theorem dX7_find_9 : decode cX7_find 9 = .ok (.getfield 13, 3) := by decide +kernel
theorem dX7_find_12 : decode cX7_find 12 = .ok (.iload_n 2, 1) := by decide +kernel
theorem dX7_find_13 : decode cX7_find 13 = .ok (.iconst 0, 1) := by decide +kernel
theorem dX7_find_14 : decode cX7_find 14 = .ok (.bastore, 1) := by decide +kernel
theorem dX7_find_15 : decode cX7_find 15 = .ok (.iinc 2 1, 3) := by decide +kernel
theorem dX7_find_18 : decode cX7_find 18 = .ok (.goto (-16), 3) := by decide +kernel
theorem dX7_find_21 : decode cX7_find 21 = .ok (.aload_n 0, 1) := by decide +kernel
theorem dX7_find_22 : decode cX7_find 22 = .ok (.iconst 0, 1) := by decide +kernel
theorem dX7_find_23 : decode cX7_find 23 = .ok (.putfield 30, 3) := by decide +kernel
theorem dX7_find_26 : decode cX7_find 26 = .ok (.aload_n 0, 1) := by decide +kernel
theorem dX7_find_27 : decode cX7_find 27 = .ok (.iconst 0, 1) := by decide +kernel
theorem dX7_find_28 : decode cX7_find 28 = .ok (.iconst (-1), 1) := by decide +kernel
theorem dX7_find_29 : decode cX7_find 29 = .ok (.iconst (-1), 1) := by decide +kernel
theorem dX7_find_30 : decode cX7_find 30 = .ok (.invokevirtual 34, 3) := by decide +kernel
theorem dX7_find_33 : decode cX7_find 33 = .ok (.pop, 1) := by decide +kernel
theorem dX7_find_34 : decode cX7_find 34 = .ok (.iconst 0, 1) := by decide +kernel
theorem dX7_find_35 : decode cX7_find 35 = .ok (.istore_n 2, 1) := by decide +kernel
theorem dX7_find_36 : decode cX7_find 36 = .ok (.iload_n 2, 1) := by decide +kernel
theorem dX7_find_37 : decode cX7_find 37 = .ok (.aload_n 0, 1) := by decide +kernel
theorem dX7_find_38 : decode cX7_find 38 = .ok (.getfield 30, 3) := by decide +kernel
theorem dX7_find_41 : decode cX7_find 41 = .ok (.if_icmp .ge 120, 3) := by decide +kernel
theorem dX7_find_44 : decode cX7_find 44 = .ok (.iload_n 2, 1) := by decide +kernel
theorem dX7_find_45 : decode cX7_find 45 = .ok (.bipush 32, 2) := by decide +kernel
theorem dX7_find_47 : decode cX7_find 47 = .ok (.if_icmp .ge 114, 3) := by decide +kernel
theorem dX7_find_50 : decode cX7_find 50 = .ok (.aload_n 0, 1) := by decide +kernel
theorem dX7_find_51 : decode cX7_find 51 = .ok (.getfield 17, 3) := by decide +kernel
theorem dX7_find_54 : decode cX7_find 54 = .ok (.iload_n 2, 1) := by decide +kernel
theorem dX7_find_55 : decode cX7_find 55 = .ok (.iaload, 1) := by decide +kernel
theorem dX7_find_56 : decode cX7_find 56 = .ok (.iconst 4, 1) := by decide +kernel
theorem dX7_find_57 : decode cX7_find 57 = .ok (.idiv, 1) := by decide +kernel
theorem dX7_find_58 : decode cX7_find 58 = .ok (.istore_n 3, 1) := by decide +kernel
theorem dX7_find_59 : decode cX7_find 59 = .ok (.aload_n 0, 1) := by decide +kernel
theorem dX7_find_60 : decode cX7_find 60 = .ok (.getfield 17, 3) := by decide +kernel
theorem dX7_find_63 : decode cX7_find 63 = .ok (.iload_n 2, 1) := by decide +kernel
theorem dX7_find_64 : decode cX7_find 64 = .ok (.iaload, 1) := by decide +kernel
theorem dX7_find_65 : decode cX7_find 65 = .ok (.iconst 4, 1) := by decide +kernel
theorem dX7_find_66 : decode cX7_find 66 = .ok (.irem, 1) := by decide +kernel
theorem dX7_find_67 : decode cX7_find 67 = .ok (.istore 4, 2) := by decide +kernel
theorem dX7_find_69 : decode cX7_find 69 = .ok (.iconst 0, 1) := by decide +kernel
theorem dX7_find_70 : decode cX7_find 70 = .ok (.istore 5, 2) := by decide +kernel
theorem dX7_find_72 : decode cX7_find 72 = .ok (.iload 5, 2) := by decide +kernel
theorem dX7_find_74 : decode cX7_find 74 = .ok (.iconst 4, 1) := by decide +kernel
theorem dX7_find_75 : decode cX7_find 75 = .ok (.if_icmp .ge 80, 3) := by decide +kernel
theorem dX7_find_78 : decode cX7_find 78 = .ok (.aload_n 1, 1) := by decide +kernel
theorem dX7_find_79 : decode cX7_find 79 = .ok (.iload_n 3, 1) := by decide +kernel
theorem dX7_find_80 : decode cX7_find 80 = .ok (.iload 5, 2) := by decide +kernel
theorem dX7_find_82 : decode cX7_find 82 = .ok (.invokevirtual 38, 3) := by decide +kernel
theorem dX7_find_85 : decode cX7_find 85 = .ok (.istore 6, 2) := by decide +kernel
theorem dX7_find_87 : decode cX7_find 87 = .ok (.iload 4, 2) := by decide +kernel
theorem dX7_find_89 : decode cX7_find 89 = .ok (.iload 5, 2) := by decide +kernel
theorem dX7_find_91 : decode cX7_find 91 = .ok (.aload_n 1, 1) := by decide +kernel
theorem dX7_find_92 : decode cX7_find 92 = .ok (.iload 6, 2) := by decide +kernel
theorem dX7_find_94 : decode cX7_find 94 = .ok (.invokevirtual 42, 3) := by decide +kernel
theorem dX7_find_97 : decode cX7_find 97 = .ok (.invokestatic 46, 3) := by decide +kernel
theorem dX7_find_100 : decode cX7_find 100 = .ok (.istore 7, 2) := by decide +kernel
theorem dX7_find_102 : decode cX7_find 102 = .ok (.aload_n 0, 1) := by decide +kernel
theorem dX7_find_103 : decode cX7_find 103 = .ok (.iload 6, 2) := by decide +kernel
theorem dX7_find_105 : decode cX7_find 105 = .ok (.iconst 4, 1) := by decide +kernel
theorem dX7_find_106 : decode cX7_find 106 = .ok (.imul, 1) := by decide +kernel
theorem dX7_find_107 : decode cX7_find 107 = .ok (.iload 7, 2) := by decide +kernel
theorem dX7_find_109 : decode cX7_find 109 = .ok (.iadd, 1) := by decide +kernel
theorem dX7_find_110 : decode cX7_find 110 = .ok (.iload_n 2, 1) := by decide +kernel
theorem dX7_find_111 : decode cX7_find 111 = .ok (.iload 5, 2) := by decide +kernel
theorem dX7_find_113 : decode cX7_find 113 = .ok (.invokevirtual 34, 3) := by decide +kernel
theorem dX7_find_116 : decode cX7_find 116 = .ok (.istore 8, 2) := by decide +kernel
theorem dX7_find_118 : decode cX7_find 118 = .ok (.iload 8, 2) := by decide +kernel
theorem dX7_find_120 : decode cX7_find 120 = .ok (.ifCond .eq 29, 3) := by decide +kernel
theorem dX7_find_123 : decode cX7_find 123 = .ok (.iload 7, 2) := by decide +kernel
theorem dX7_find_125 : decode cX7_find 125 = .ok (.iconst 2, 1) := by decide +kernel
theorem dX7_find_126 : decode cX7_find 126 = .ok (.if_icmp .lt 23, 3) := by decide +kernel
theorem dX7_find_129 : decode cX7_find 129 = .ok (.aload_n 1, 1) := by decide +kernel
theorem dX7_find_130 : decode cX7_find 130 = .ok (.iload 6, 2) := by decide +kernel
theorem dX7_find_132 : decode cX7_find 132 = .ok (.invokevirtual 50, 3) := by decide +kernel
theorem dX7_find_135 : decode cX7_find 135 = .ok (.ifCond .eq 14, 3) := by decide +kernel
theorem dX7_find_138 : decode cX7_find 138 = .ok (.aload_n 0, 1) := by decide +kernel
theorem dX7_find_139 : decode cX7_find 139 = .ok (.aload_n 0, 1) := by decide +kernel
theorem dX7_find_140 : decode cX7_find 140 = .ok (.getfield 30, 3) := by decide +kernel
theorem dX7_find_143 : decode cX7_find 143 = .ok (.iconst 1, 1) := by decide +kernel
theorem dX7_find_144 : decode cX7_find 144 = .ok (.isub, 1) := by decide +kernel
theorem dX7_find_145 : decode cX7_find 145 = .ok (.invokevirtual 53, 3) := by decide +kernel
theorem dX7_find_148 : decode cX7_find 148 = .ok (.ireturn, 1) := by decide +kernel
theorem dX7_find_149 : decode cX7_find 149 = .ok (.iinc 5 1, 3) := by decide +kernel
theorem dX7_find_152 : decode cX7_find 152 = .ok (.goto (-80), 3) := by decide +kernel
theorem dX7_find_155 : decode cX7_find 155 = .ok (.iinc 2 1, 3) := by decide +kernel
theorem dX7_find_158 : decode cX7_find 158 = .ok (.goto (-122), 3) := by decide +kernel
theorem dX7_find_161 : decode cX7_find 161 = .ok (.iconst (-1), 1) := by decide +kernel
theorem dX7_find_162 : decode cX7_find 162 = .ok (.ireturn, 1) := by decide +kernel
theorem dX7_eventAt_0 : decode cX7_eventAt 0 = .ok (.iload_n 1, 1) := by decide +kernel
theorem dX7_eventAt_1 : decode cX7_eventAt 1 = .ok (.ifCond .lt 18, 3) := by decide +kernel
theorem dX7_eventAt_4 : decode cX7_eventAt 4 = .ok (.iload_n 1, 1) := by decide +kernel
theorem dX7_eventAt_5 : decode cX7_eventAt 5 = .ok (.bipush 32, 2) := by decide +kernel
theorem dX7_eventAt_7 : decode cX7_eventAt 7 = .ok (.if_icmp .ge 12, 3) := by decide +kernel
theorem dX7_eventAt_10 : decode cX7_eventAt 10 = .ok (.aload_n 0, 1) := by decide +kernel
theorem dX7_eventAt_11 : decode cX7_eventAt 11 = .ok (.getfield 27, 3) := by decide +kernel
theorem dX7_eventAt_14 : decode cX7_eventAt 14 = .ok (.iload_n 1, 1) := by decide +kernel
theorem dX7_eventAt_15 : decode cX7_eventAt 15 = .ok (.iaload, 1) := by decide +kernel
theorem dX7_eventAt_16 : decode cX7_eventAt 16 = .ok (.goto 4, 3) := by decide +kernel
theorem dX7_eventAt_19 : decode cX7_eventAt 19 = .ok (.iconst (-1), 1) := by decide +kernel
theorem dX7_eventAt_20 : decode cX7_eventAt 20 = .ok (.ireturn, 1) := by decide +kernel
theorem dX7_dangerAfter_0 : decode cX7_dangerAfter 0 = .ok (.iload_n 1, 1) := by decide +kernel
theorem dX7_dangerAfter_1 : decode cX7_dangerAfter 1 = .ok (.iconst 1, 1) := by decide +kernel
theorem dX7_dangerAfter_2 : decode cX7_dangerAfter 2 = .ok (.if_icmp .ne 5, 3) := by decide +kernel
theorem dX7_dangerAfter_5 : decode cX7_dangerAfter 5 = .ok (.iconst 3, 1) := by decide +kernel
theorem dX7_dangerAfter_6 : decode cX7_dangerAfter 6 = .ok (.ireturn, 1) := by decide +kernel
theorem dX7_dangerAfter_7 : decode cX7_dangerAfter 7 = .ok (.iconst 0, 1) := by decide +kernel
theorem dX7_dangerAfter_8 : decode cX7_dangerAfter 8 = .ok (.iload_n 0, 1) := by decide +kernel
theorem dX7_dangerAfter_9 : decode cX7_dangerAfter 9 = .ok (.iload_n 2, 1) := by decide +kernel
theorem dX7_dangerAfter_10 : decode cX7_dangerAfter 10 = .ok (.ifCond .eq 7, 3) := by decide +kernel
theorem dX7_dangerAfter_13 : decode cX7_dangerAfter 13 = .ok (.iconst 2, 1) := by decide +kernel
theorem dX7_dangerAfter_14 : decode cX7_dangerAfter 14 = .ok (.goto 4, 3) := by decide +kernel
theorem dX7_dangerAfter_17 : decode cX7_dangerAfter 17 = .ok (.iconst 1, 1) := by decide +kernel
theorem dX7_dangerAfter_18 : decode cX7_dangerAfter 18 = .ok (.isub, 1) := by decide +kernel
theorem dX7_dangerAfter_19 : decode cX7_dangerAfter 19 = .ok (.invokestatic 57, 3) := by decide +kernel
theorem dX7_dangerAfter_22 : decode cX7_dangerAfter 22 = .ok (.ireturn, 1) := by decide +kernel
theorem dX7_reach_0 : decode cX7_reach 0 = .ok (.iload_n 1, 1) := by decide +kernel
theorem dX7_reach_1 : decode cX7_reach 1 = .ok (.ifCond .lt 34, 3) := by decide +kernel
theorem dX7_reach_4 : decode cX7_reach 4 = .ok (.iload_n 1, 1) := by decide +kernel
theorem dX7_reach_5 : decode cX7_reach 5 = .ok (.bipush 32, 2) := by decide +kernel
theorem dX7_reach_7 : decode cX7_reach 7 = .ok (.if_icmp .ge 28, 3) := by decide +kernel
theorem dX7_reach_10 : decode cX7_reach 10 = .ok (.aload_n 0, 1) := by decide +kernel
theorem dX7_reach_11 : decode cX7_reach 11 = .ok (.getfield 13, 3) := by decide +kernel
theorem dX7_reach_14 : decode cX7_reach 14 = .ok (.iload_n 1, 1) := by decide +kernel
theorem dX7_reach_15 : decode cX7_reach 15 = .ok (.baload, 1) := by decide +kernel
theorem dX7_reach_16 : decode cX7_reach 16 = .ok (.ifCond .ne 19, 3) := by decide +kernel
theorem dX7_reach_19 : decode cX7_reach 19 = .ok (.aload_n 0, 1) := by decide +kernel
theorem dX7_reach_20 : decode cX7_reach 20 = .ok (.getfield 30, 3) := by decide +kernel
theorem dX7_reach_23 : decode cX7_reach 23 = .ok (.ifCond .lt 12, 3) := by decide +kernel
theorem dX7_reach_26 : decode cX7_reach 26 = .ok (.aload_n 0, 1) := by decide +kernel
theorem dX7_reach_27 : decode cX7_reach 27 = .ok (.getfield 30, 3) := by decide +kernel
theorem dX7_reach_30 : decode cX7_reach 30 = .ok (.bipush 32, 2) := by decide +kernel
theorem dX7_reach_32 : decode cX7_reach 32 = .ok (.if_icmp .lt 5, 3) := by decide +kernel
theorem dX7_reach_35 : decode cX7_reach 35 = .ok (.iconst 0, 1) := by decide +kernel
theorem dX7_reach_36 : decode cX7_reach 36 = .ok (.ireturn, 1) := by decide +kernel
theorem dX7_reach_37 : decode cX7_reach 37 = .ok (.aload_n 0, 1) := by decide +kernel
theorem dX7_reach_38 : decode cX7_reach 38 = .ok (.getfield 13, 3) := by decide +kernel
theorem dX7_reach_41 : decode cX7_reach 41 = .ok (.iload_n 1, 1) := by decide +kernel
theorem dX7_reach_42 : decode cX7_reach 42 = .ok (.iconst 1, 1) := by decide +kernel
theorem dX7_reach_43 : decode cX7_reach 43 = .ok (.bastore, 1) := by decide +kernel
theorem dX7_reach_44 : decode cX7_reach 44 = .ok (.aload_n 0, 1) := by decide +kernel
theorem dX7_reach_45 : decode cX7_reach 45 = .ok (.getfield 17, 3) := by decide +kernel
theorem dX7_reach_48 : decode cX7_reach 48 = .ok (.aload_n 0, 1) := by decide +kernel
theorem dX7_reach_49 : decode cX7_reach 49 = .ok (.getfield 30, 3) := by decide +kernel
theorem dX7_reach_52 : decode cX7_reach 52 = .ok (.iload_n 1, 1) := by decide +kernel
theorem dX7_reach_53 : decode cX7_reach 53 = .ok (.iastore, 1) := by decide +kernel
theorem dX7_reach_54 : decode cX7_reach 54 = .ok (.aload_n 0, 1) := by decide +kernel
theorem dX7_reach_55 : decode cX7_reach 55 = .ok (.getfield 21, 3) := by decide +kernel
theorem dX7_reach_58 : decode cX7_reach 58 = .ok (.aload_n 0, 1) := by decide +kernel
theorem dX7_reach_59 : decode cX7_reach 59 = .ok (.getfield 30, 3) := by decide +kernel
theorem dX7_reach_62 : decode cX7_reach 62 = .ok (.iload_n 2, 1) := by decide +kernel
theorem dX7_reach_63 : decode cX7_reach 63 = .ok (.iastore, 1) := by decide +kernel
theorem dX7_reach_64 : decode cX7_reach 64 = .ok (.aload_n 0, 1) := by decide +kernel
theorem dX7_reach_65 : decode cX7_reach 65 = .ok (.getfield 24, 3) := by decide +kernel
theorem dX7_reach_68 : decode cX7_reach 68 = .ok (.aload_n 0, 1) := by decide +kernel
theorem dX7_reach_69 : decode cX7_reach 69 = .ok (.getfield 30, 3) := by decide +kernel
theorem dX7_reach_72 : decode cX7_reach 72 = .ok (.iload_n 3, 1) := by decide +kernel
theorem dX7_reach_73 : decode cX7_reach 73 = .ok (.iastore, 1) := by decide +kernel
theorem dX7_reach_74 : decode cX7_reach 74 = .ok (.aload_n 0, 1) := by decide +kernel
theorem dX7_reach_75 : decode cX7_reach 75 = .ok (.dup, 1) := by decide +kernel
theorem dX7_reach_76 : decode cX7_reach 76 = .ok (.getfield 30, 3) := by decide +kernel
theorem dX7_reach_79 : decode cX7_reach 79 = .ok (.iconst 1, 1) := by decide +kernel
theorem dX7_reach_80 : decode cX7_reach 80 = .ok (.iadd, 1) := by decide +kernel
theorem dX7_reach_81 : decode cX7_reach 81 = .ok (.putfield 30, 3) := by decide +kernel
theorem dX7_reach_84 : decode cX7_reach 84 = .ok (.iconst 1, 1) := by decide +kernel
theorem dX7_reach_85 : decode cX7_reach 85 = .ok (.ireturn, 1) := by decide +kernel
theorem dX7_writeRow_0 : decode cX7_writeRow 0 = .ok (.iconst 0, 1) := by decide +kernel
theorem dX7_writeRow_1 : decode cX7_writeRow 1 = .ok (.istore_n 2, 1) := by decide +kernel
theorem dX7_writeRow_2 : decode cX7_writeRow 2 = .ok (.iload_n 1, 1) := by decide +kernel
theorem dX7_writeRow_3 : decode cX7_writeRow 3 = .ok (.istore_n 3, 1) := by decide +kernel
theorem dX7_writeRow_4 : decode cX7_writeRow 4 = .ok (.iload_n 3, 1) := by decide +kernel
theorem dX7_writeRow_5 : decode cX7_writeRow 5 = .ok (.ifCond .le 40, 3) := by decide +kernel
theorem dX7_writeRow_8 : decode cX7_writeRow 8 = .ok (.iload_n 3, 1) := by decide +kernel
theorem dX7_writeRow_9 : decode cX7_writeRow 9 = .ok (.bipush 32, 2) := by decide +kernel
theorem dX7_writeRow_11 : decode cX7_writeRow 11 = .ok (.if_icmp .ge 34, 3) := by decide +kernel
theorem dX7_writeRow_14 : decode cX7_writeRow 14 = .ok (.iload_n 2, 1) := by decide +kernel
theorem dX7_writeRow_15 : decode cX7_writeRow 15 = .ok (.bipush 32, 2) := by decide +kernel
theorem dX7_writeRow_17 : decode cX7_writeRow 17 = .ok (.if_icmp .ge 28, 3) := by decide +kernel
theorem dX7_writeRow_20 : decode cX7_writeRow 20 = .ok (.aload_n 0, 1) := by decide +kernel
theorem dX7_writeRow_21 : decode cX7_writeRow 21 = .ok (.getfield 27, 3) := by decide +kernel
theorem dX7_writeRow_24 : decode cX7_writeRow 24 = .ok (.iload_n 2, 1) := by decide +kernel
theorem dX7_writeRow_25 : decode cX7_writeRow 25 = .ok (.aload_n 0, 1) := by decide +kernel
theorem dX7_writeRow_26 : decode cX7_writeRow 26 = .ok (.getfield 24, 3) := by decide +kernel
theorem dX7_writeRow_29 : decode cX7_writeRow 29 = .ok (.iload_n 3, 1) := by decide +kernel
theorem dX7_writeRow_30 : decode cX7_writeRow 30 = .ok (.iaload, 1) := by decide +kernel
theorem dX7_writeRow_31 : decode cX7_writeRow 31 = .ok (.iastore, 1) := by decide +kernel
theorem dX7_writeRow_32 : decode cX7_writeRow 32 = .ok (.iinc 2 1, 3) := by decide +kernel
theorem dX7_writeRow_35 : decode cX7_writeRow 35 = .ok (.aload_n 0, 1) := by decide +kernel
theorem dX7_writeRow_36 : decode cX7_writeRow 36 = .ok (.getfield 21, 3) := by decide +kernel
theorem dX7_writeRow_39 : decode cX7_writeRow 39 = .ok (.iload_n 3, 1) := by decide +kernel
theorem dX7_writeRow_40 : decode cX7_writeRow 40 = .ok (.iaload, 1) := by decide +kernel
theorem dX7_writeRow_41 : decode cX7_writeRow 41 = .ok (.istore_n 3, 1) := by decide +kernel
theorem dX7_writeRow_42 : decode cX7_writeRow 42 = .ok (.goto (-38), 3) := by decide +kernel
theorem dX7_writeRow_45 : decode cX7_writeRow 45 = .ok (.iconst 0, 1) := by decide +kernel
theorem dX7_writeRow_46 : decode cX7_writeRow 46 = .ok (.istore_n 3, 1) := by decide +kernel
theorem dX7_writeRow_47 : decode cX7_writeRow 47 = .ok (.iload_n 3, 1) := by decide +kernel
theorem dX7_writeRow_48 : decode cX7_writeRow 48 = .ok (.iload_n 2, 1) := by decide +kernel
theorem dX7_writeRow_49 : decode cX7_writeRow 49 = .ok (.iconst 2, 1) := by decide +kernel
theorem dX7_writeRow_50 : decode cX7_writeRow 50 = .ok (.idiv, 1) := by decide +kernel
theorem dX7_writeRow_51 : decode cX7_writeRow 51 = .ok (.if_icmp .ge 45, 3) := by decide +kernel
theorem dX7_writeRow_54 : decode cX7_writeRow 54 = .ok (.aload_n 0, 1) := by decide +kernel
theorem dX7_writeRow_55 : decode cX7_writeRow 55 = .ok (.getfield 27, 3) := by decide +kernel
theorem dX7_writeRow_58 : decode cX7_writeRow 58 = .ok (.iload_n 3, 1) := by decide +kernel
theorem dX7_writeRow_59 : decode cX7_writeRow 59 = .ok (.iaload, 1) := by decide +kernel
theorem dX7_writeRow_60 : decode cX7_writeRow 60 = .ok (.istore 4, 2) := by decide +kernel
theorem dX7_writeRow_62 : decode cX7_writeRow 62 = .ok (.aload_n 0, 1) := by decide +kernel
theorem dX7_writeRow_63 : decode cX7_writeRow 63 = .ok (.getfield 27, 3) := by decide +kernel
theorem dX7_writeRow_66 : decode cX7_writeRow 66 = .ok (.iload_n 3, 1) := by decide +kernel
theorem dX7_writeRow_67 : decode cX7_writeRow 67 = .ok (.aload_n 0, 1) := by decide +kernel
theorem dX7_writeRow_68 : decode cX7_writeRow 68 = .ok (.getfield 27, 3) := by decide +kernel
theorem dX7_writeRow_71 : decode cX7_writeRow 71 = .ok (.iload_n 2, 1) := by decide +kernel
theorem dX7_writeRow_72 : decode cX7_writeRow 72 = .ok (.iconst 1, 1) := by decide +kernel
theorem dX7_writeRow_73 : decode cX7_writeRow 73 = .ok (.isub, 1) := by decide +kernel
theorem dX7_writeRow_74 : decode cX7_writeRow 74 = .ok (.iload_n 3, 1) := by decide +kernel
theorem dX7_writeRow_75 : decode cX7_writeRow 75 = .ok (.isub, 1) := by decide +kernel
theorem dX7_writeRow_76 : decode cX7_writeRow 76 = .ok (.iaload, 1) := by decide +kernel
theorem dX7_writeRow_77 : decode cX7_writeRow 77 = .ok (.iastore, 1) := by decide +kernel
theorem dX7_writeRow_78 : decode cX7_writeRow 78 = .ok (.aload_n 0, 1) := by decide +kernel
theorem dX7_writeRow_79 : decode cX7_writeRow 79 = .ok (.getfield 27, 3) := by decide +kernel
theorem dX7_writeRow_82 : decode cX7_writeRow 82 = .ok (.iload_n 2, 1) := by decide +kernel
theorem dX7_writeRow_83 : decode cX7_writeRow 83 = .ok (.iconst 1, 1) := by decide +kernel
theorem dX7_writeRow_84 : decode cX7_writeRow 84 = .ok (.isub, 1) := by decide +kernel
theorem dX7_writeRow_85 : decode cX7_writeRow 85 = .ok (.iload_n 3, 1) := by decide +kernel
theorem dX7_writeRow_86 : decode cX7_writeRow 86 = .ok (.isub, 1) := by decide +kernel
theorem dX7_writeRow_87 : decode cX7_writeRow 87 = .ok (.iload 4, 2) := by decide +kernel
theorem dX7_writeRow_89 : decode cX7_writeRow 89 = .ok (.iastore, 1) := by decide +kernel
theorem dX7_writeRow_90 : decode cX7_writeRow 90 = .ok (.iinc 3 1, 3) := by decide +kernel
theorem dX7_writeRow_93 : decode cX7_writeRow 93 = .ok (.goto (-46), 3) := by decide +kernel
theorem dX7_writeRow_96 : decode cX7_writeRow 96 = .ok (.iload_n 2, 1) := by decide +kernel
theorem dX7_writeRow_97 : decode cX7_writeRow 97 = .ok (.ireturn, 1) := by decide +kernel
theorem dX8_init_0 : decode cX8_init 0 = .ok (.aload_n 0, 1) := by decide +kernel
theorem dX8_init_1 : decode cX8_init 1 = .ok (.invokespecial 3, 3) := by decide +kernel
theorem dX8_init_4 : decode cX8_init 4 = .ok (.aload_n 0, 1) := by decide +kernel
theorem dX8_init_5 : decode cX8_init 5 = .ok (.iconst 0, 1) := by decide +kernel
theorem dX8_init_6 : decode cX8_init 6 = .ok (.putfield 9, 3) := by decide +kernel
theorem dX8_init_9 : decode cX8_init 9 = .ok (.aload_n 0, 1) := by decide +kernel
theorem dX8_init_10 : decode cX8_init 10 = .ok (.bipush 6, 2) := by decide +kernel
theorem dX8_init_12 : decode cX8_init 12 = .ok (.newarray .int, 2) := by decide +kernel
theorem dX8_init_14 : decode cX8_init 14 = .ok (.putfield 15, 3) := by decide +kernel
theorem dX8_init_17 : decode cX8_init 17 = .ok (.aload_n 0, 1) := by decide +kernel
theorem dX8_init_18 : decode cX8_init 18 = .ok (.bipush 6, 2) := by decide +kernel
theorem dX8_init_20 : decode cX8_init 20 = .ok (.newarray .int, 2) := by decide +kernel
theorem dX8_init_22 : decode cX8_init 22 = .ok (.putfield 19, 3) := by decide +kernel
theorem dX8_init_25 : decode cX8_init 25 = .ok (.aload_n 0, 1) := by decide +kernel
theorem dX8_init_26 : decode cX8_init 26 = .ok (.bipush 6, 2) := by decide +kernel
theorem dX8_init_28 : decode cX8_init 28 = .ok (.newarray .int, 2) := by decide +kernel
theorem dX8_init_30 : decode cX8_init 30 = .ok (.putfield 22, 3) := by decide +kernel
theorem dX8_init_33 : decode cX8_init 33 = .ok (.return_, 1) := by decide +kernel
theorem dX8_hasSides_0 : decode cX8_hasSides 0 = .ok (.iload_n 0, 1) := by decide +kernel
theorem dX8_hasSides_1 : decode cX8_hasSides 1 = .ok (.iconst 1, 1) := by decide +kernel
theorem dX8_hasSides_2 : decode cX8_hasSides 2 = .ok (.if_icmp .lt 24, 3) := by decide +kernel
theorem dX8_hasSides_5 : decode cX8_hasSides 5 = .ok (.iload_n 0, 1) := by decide +kernel
theorem dX8_hasSides_6 : decode cX8_hasSides 6 = .ok (.bipush 24, 2) := by decide +kernel
theorem dX8_hasSides_8 : decode cX8_hasSides 8 = .ok (.if_icmp .gt 18, 3) := by decide +kernel
theorem dX8_hasSides_11 : decode cX8_hasSides 11 = .ok (.iload_n 1, 1) := by decide +kernel
theorem dX8_hasSides_12 : decode cX8_hasSides 12 = .ok (.iconst 1, 1) := by decide +kernel
theorem dX8_hasSides_13 : decode cX8_hasSides 13 = .ok (.if_icmp .lt 13, 3) := by decide +kernel
theorem dX8_hasSides_16 : decode cX8_hasSides 16 = .ok (.iload_n 1, 1) := by decide +kernel
theorem dX8_hasSides_17 : decode cX8_hasSides 17 = .ok (.bipush 24, 2) := by decide +kernel
theorem dX8_hasSides_19 : decode cX8_hasSides 19 = .ok (.if_icmp .gt 7, 3) := by decide +kernel
theorem dX8_hasSides_22 : decode cX8_hasSides 22 = .ok (.iconst 1, 1) := by decide +kernel
theorem dX8_hasSides_23 : decode cX8_hasSides 23 = .ok (.goto 4, 3) := by decide +kernel
theorem dX8_hasSides_26 : decode cX8_hasSides 26 = .ok (.iconst 0, 1) := by decide +kernel
theorem dX8_hasSides_27 : decode cX8_hasSides 27 = .ok (.ireturn, 1) := by decide +kernel
theorem dX8_add_0 : decode cX8_add 0 = .ok (.aload_n 0, 1) := by decide +kernel
theorem dX8_add_1 : decode cX8_add 1 = .ok (.getfield 9, 3) := by decide +kernel
theorem dX8_add_4 : decode cX8_add 4 = .ok (.bipush 6, 2) := by decide +kernel
theorem dX8_add_6 : decode cX8_add 6 = .ok (.if_icmp .ge 23, 3) := by decide +kernel
theorem dX8_add_9 : decode cX8_add 9 = .ok (.iload_n 1, 1) := by decide +kernel
theorem dX8_add_10 : decode cX8_add 10 = .ok (.iload_n 2, 1) := by decide +kernel
theorem dX8_add_11 : decode cX8_add 11 = .ok (.invokestatic 25, 3) := by decide +kernel
theorem dX8_add_14 : decode cX8_add 14 = .ok (.ifCond .eq 15, 3) := by decide +kernel
theorem dX8_add_17 : decode cX8_add 17 = .ok (.iload_n 3, 1) := by decide +kernel
theorem dX8_add_18 : decode cX8_add 18 = .ok (.iconst 1, 1) := by decide +kernel
theorem dX8_add_19 : decode cX8_add 19 = .ok (.if_icmp .lt 10, 3) := by decide +kernel
theorem dX8_add_22 : decode cX8_add 22 = .ok (.iload_n 3, 1) := by decide +kernel
theorem dX8_add_23 : decode cX8_add 23 = .ok (.sipush 999, 3) := by decide +kernel
theorem dX8_add_26 : decode cX8_add 26 = .ok (.if_icmp .le 5, 3) := by decide +kernel
theorem dX8_add_29 : decode cX8_add 29 = .ok (.iconst (-1), 1) := by decide +kernel
theorem dX8_add_30 : decode cX8_add 30 = .ok (.ireturn, 1) := by decide +kernel
theorem dX8_add_31 : decode cX8_add 31 = .ok (.aload_n 0, 1) := by decide +kernel
theorem dX8_add_32 : decode cX8_add 32 = .ok (.getfield 15, 3) := by decide +kernel
theorem dX8_add_35 : decode cX8_add 35 = .ok (.aload_n 0, 1) := by decide +kernel
theorem dX8_add_36 : decode cX8_add 36 = .ok (.getfield 9, 3) := by decide +kernel
theorem dX8_add_39 : decode cX8_add 39 = .ok (.iload_n 1, 1) := by decide +kernel
theorem dX8_add_40 : decode cX8_add 40 = .ok (.iastore, 1) := by decide +kernel
theorem dX8_add_41 : decode cX8_add 41 = .ok (.aload_n 0, 1) := by decide +kernel
theorem dX8_add_42 : decode cX8_add 42 = .ok (.getfield 19, 3) := by decide +kernel
theorem dX8_add_45 : decode cX8_add 45 = .ok (.aload_n 0, 1) := by decide +kernel
theorem dX8_add_46 : decode cX8_add 46 = .ok (.getfield 9, 3) := by decide +kernel
theorem dX8_add_49 : decode cX8_add 49 = .ok (.iload_n 2, 1) := by decide +kernel
theorem dX8_add_50 : decode cX8_add 50 = .ok (.iastore, 1) := by decide +kernel
theorem dX8_add_51 : decode cX8_add 51 = .ok (.aload_n 0, 1) := by decide +kernel
theorem dX8_add_52 : decode cX8_add 52 = .ok (.getfield 22, 3) := by decide +kernel
theorem dX8_add_55 : decode cX8_add 55 = .ok (.aload_n 0, 1) := by decide +kernel
theorem dX8_add_56 : decode cX8_add 56 = .ok (.getfield 9, 3) := by decide +kernel
theorem dX8_add_59 : decode cX8_add 59 = .ok (.iload_n 3, 1) := by decide +kernel
theorem dX8_add_60 : decode cX8_add 60 = .ok (.iastore, 1) := by decide +kernel
theorem dX8_add_61 : decode cX8_add 61 = .ok (.aload_n 0, 1) := by decide +kernel
theorem dX8_add_62 : decode cX8_add 62 = .ok (.dup, 1) := by decide +kernel
theorem dX8_add_63 : decode cX8_add 63 = .ok (.getfield 9, 3) := by decide +kernel
theorem dX8_add_66 : decode cX8_add 66 = .ok (.iconst 1, 1) := by decide +kernel
theorem dX8_add_67 : decode cX8_add 67 = .ok (.iadd, 1) := by decide +kernel
theorem dX8_add_68 : decode cX8_add 68 = .ok (.putfield 9, 3) := by decide +kernel
theorem dX8_add_71 : decode cX8_add 71 = .ok (.aload_n 0, 1) := by decide +kernel
theorem dX8_add_72 : decode cX8_add 72 = .ok (.getfield 9, 3) := by decide +kernel
theorem dX8_add_75 : decode cX8_add 75 = .ok (.iconst 1, 1) := by decide +kernel
theorem dX8_add_76 : decode cX8_add 76 = .ok (.isub, 1) := by decide +kernel
theorem dX8_add_77 : decode cX8_add 77 = .ok (.ireturn, 1) := by decide +kernel
theorem dX8_has_0 : decode cX8_has 0 = .ok (.iload_n 1, 1) := by decide +kernel
theorem dX8_has_1 : decode cX8_has 1 = .ok (.ifCond .lt 15, 3) := by decide +kernel
theorem dX8_has_4 : decode cX8_has 4 = .ok (.iload_n 1, 1) := by decide +kernel
theorem dX8_has_5 : decode cX8_has 5 = .ok (.aload_n 0, 1) := by decide +kernel
theorem dX8_has_6 : decode cX8_has 6 = .ok (.getfield 9, 3) := by decide +kernel
theorem dX8_has_9 : decode cX8_has 9 = .ok (.if_icmp .ge 7, 3) := by decide +kernel
theorem dX8_has_12 : decode cX8_has 12 = .ok (.iconst 1, 1) := by decide +kernel
theorem dX8_has_13 : decode cX8_has 13 = .ok (.goto 4, 3) := by decide +kernel
theorem dX8_has_16 : decode cX8_has 16 = .ok (.iconst 0, 1) := by decide +kernel
theorem dX8_has_17 : decode cX8_has 17 = .ok (.ireturn, 1) := by decide +kernel
theorem dX8_worthOf_0 : decode cX8_worthOf 0 = .ok (.aload_n 0, 1) := by decide +kernel
theorem dX8_worthOf_1 : decode cX8_worthOf 1 = .ok (.iload_n 1, 1) := by decide +kernel
theorem dX8_worthOf_2 : decode cX8_worthOf 2 = .ok (.invokevirtual 29, 3) := by decide +kernel
theorem dX8_worthOf_5 : decode cX8_worthOf 5 = .ok (.ifCond .eq 12, 3) := by decide +kernel
theorem dX8_worthOf_8 : decode cX8_worthOf 8 = .ok (.aload_n 0, 1) := by decide +kernel
theorem dX8_worthOf_9 : decode cX8_worthOf 9 = .ok (.getfield 22, 3) := by decide +kernel
theorem dX8_worthOf_12 : decode cX8_worthOf 12 = .ok (.iload_n 1, 1) := by decide +kernel
theorem dX8_worthOf_13 : decode cX8_worthOf 13 = .ok (.iaload, 1) := by decide +kernel
theorem dX8_worthOf_14 : decode cX8_worthOf 14 = .ok (.goto 4, 3) := by decide +kernel
theorem dX8_worthOf_17 : decode cX8_worthOf 17 = .ok (.iconst 0, 1) := by decide +kernel
theorem dX8_worthOf_18 : decode cX8_worthOf 18 = .ok (.ireturn, 1) := by decide +kernel
theorem dX8_dearestIn_0 : decode cX8_dearestIn 0 = .ok (.iconst (-1), 1) := by decide +kernel
theorem dX8_dearestIn_1 : decode cX8_dearestIn 1 = .ok (.istore_n 3, 1) := by decide +kernel
theorem dX8_dearestIn_2 : decode cX8_dearestIn 2 = .ok (.iconst 0, 1) := by decide +kernel
theorem dX8_dearestIn_3 : decode cX8_dearestIn 3 = .ok (.istore 4, 2) := by decide +kernel
theorem dX8_dearestIn_5 : decode cX8_dearestIn 5 = .ok (.iload 4, 2) := by decide +kernel
theorem dX8_dearestIn_7 : decode cX8_dearestIn 7 = .ok (.aload_n 0, 1) := by decide +kernel
theorem dX8_dearestIn_8 : decode cX8_dearestIn 8 = .ok (.getfield 9, 3) := by decide +kernel
theorem dX8_dearestIn_11 : decode cX8_dearestIn 11 = .ok (.if_icmp .ge 56, 3) := by decide +kernel
theorem dX8_dearestIn_14 : decode cX8_dearestIn 14 = .ok (.iload 4, 2) := by decide +kernel
theorem dX8_dearestIn_16 : decode cX8_dearestIn 16 = .ok (.bipush 6, 2) := by decide +kernel
theorem dX8_dearestIn_18 : decode cX8_dearestIn 18 = .ok (.if_icmp .ge 49, 3) := by decide +kernel
theorem dX8_dearestIn_21 : decode cX8_dearestIn 21 = .ok (.aload_n 0, 1) := by decide +kernel
theorem dX8_dearestIn_22 : decode cX8_dearestIn 22 = .ok (.getfield 15, 3) := by decide +kernel
theorem dX8_dearestIn_25 : decode cX8_dearestIn 25 = .ok (.iload 4, 2) := by decide +kernel
theorem dX8_dearestIn_27 : decode cX8_dearestIn 27 = .ok (.iaload, 1) := by decide +kernel
theorem dX8_dearestIn_28 : decode cX8_dearestIn 28 = .ok (.iload_n 1, 1) := by decide +kernel
theorem dX8_dearestIn_29 : decode cX8_dearestIn 29 = .ok (.if_icmp .gt 32, 3) := by decide +kernel
theorem dX8_dearestIn_32 : decode cX8_dearestIn 32 = .ok (.aload_n 0, 1) := by decide +kernel
theorem dX8_dearestIn_33 : decode cX8_dearestIn 33 = .ok (.getfield 19, 3) := by decide +kernel
theorem dX8_dearestIn_36 : decode cX8_dearestIn 36 = .ok (.iload 4, 2) := by decide +kernel
theorem dX8_dearestIn_38 : decode cX8_dearestIn 38 = .ok (.iaload, 1) := by decide +kernel
theorem dX8_dearestIn_39 : decode cX8_dearestIn 39 = .ok (.iload_n 2, 1) := by decide +kernel
theorem dX8_dearestIn_40 : decode cX8_dearestIn 40 = .ok (.if_icmp .gt 21, 3) := by decide +kernel
theorem dX8_dearestIn_43 : decode cX8_dearestIn 43 = .ok (.aload_n 0, 1) := by decide +kernel
theorem dX8_dearestIn_44 : decode cX8_dearestIn 44 = .ok (.getfield 22, 3) := by decide +kernel
theorem dX8_dearestIn_47 : decode cX8_dearestIn 47 = .ok (.iload 4, 2) := by decide +kernel
theorem dX8_dearestIn_49 : decode cX8_dearestIn 49 = .ok (.iaload, 1) := by decide +kernel
theorem dX8_dearestIn_50 : decode cX8_dearestIn 50 = .ok (.aload_n 0, 1) := by decide +kernel
theorem dX8_dearestIn_51 : decode cX8_dearestIn 51 = .ok (.iload_n 3, 1) := by decide +kernel
theorem dX8_dearestIn_52 : decode cX8_dearestIn 52 = .ok (.invokevirtual 33, 3) := by decide +kernel
theorem dX8_dearestIn_55 : decode cX8_dearestIn 55 = .ok (.if_icmp .le 6, 3) := by decide +kernel
theorem dX8_dearestIn_58 : decode cX8_dearestIn 58 = .ok (.iload 4, 2) := by decide +kernel
theorem dX8_dearestIn_60 : decode cX8_dearestIn 60 = .ok (.istore_n 3, 1) := by decide +kernel
theorem dX8_dearestIn_61 : decode cX8_dearestIn 61 = .ok (.iinc 4 1, 3) := by decide +kernel
theorem dX8_dearestIn_64 : decode cX8_dearestIn 64 = .ok (.goto (-59), 3) := by decide +kernel
theorem dX8_dearestIn_67 : decode cX8_dearestIn 67 = .ok (.iload_n 3, 1) := by decide +kernel
theorem dX8_dearestIn_68 : decode cX8_dearestIn 68 = .ok (.ireturn, 1) := by decide +kernel
theorem dX8_copyFrom_0 : decode cX8_copyFrom 0 = .ok (.aload_n 0, 1) := by decide +kernel
theorem dX8_copyFrom_1 : decode cX8_copyFrom 1 = .ok (.aload_n 1, 1) := by decide +kernel
theorem dX8_copyFrom_2 : decode cX8_copyFrom 2 = .ok (.getfield 9, 3) := by decide +kernel
theorem dX8_copyFrom_5 : decode cX8_copyFrom 5 = .ok (.putfield 9, 3) := by decide +kernel
theorem dX8_copyFrom_8 : decode cX8_copyFrom 8 = .ok (.aload_n 1, 1) := by decide +kernel
theorem dX8_copyFrom_9 : decode cX8_copyFrom 9 = .ok (.getfield 15, 3) := by decide +kernel
theorem dX8_copyFrom_12 : decode cX8_copyFrom 12 = .ok (.iconst 0, 1) := by decide +kernel
theorem dX8_copyFrom_13 : decode cX8_copyFrom 13 = .ok (.aload_n 0, 1) := by decide +kernel
theorem dX8_copyFrom_14 : decode cX8_copyFrom 14 = .ok (.getfield 15, 3) := by decide +kernel
theorem dX8_copyFrom_17 : decode cX8_copyFrom 17 = .ok (.iconst 0, 1) := by decide +kernel
theorem dX8_copyFrom_18 : decode cX8_copyFrom 18 = .ok (.bipush 6, 2) := by decide +kernel
theorem dX8_copyFrom_20 : decode cX8_copyFrom 20 = .ok (.invokestatic 37, 3) := by decide +kernel
theorem dX8_copyFrom_23 : decode cX8_copyFrom 23 = .ok (.aload_n 1, 1) := by decide +kernel
theorem dX8_copyFrom_24 : decode cX8_copyFrom 24 = .ok (.getfield 19, 3) := by decide +kernel
theorem dX8_copyFrom_27 : decode cX8_copyFrom 27 = .ok (.iconst 0, 1) := by decide +kernel
theorem dX8_copyFrom_28 : decode cX8_copyFrom 28 = .ok (.aload_n 0, 1) := by decide +kernel
theorem dX8_copyFrom_29 : decode cX8_copyFrom 29 = .ok (.getfield 19, 3) := by decide +kernel
theorem dX8_copyFrom_32 : decode cX8_copyFrom 32 = .ok (.iconst 0, 1) := by decide +kernel
theorem dX8_copyFrom_33 : decode cX8_copyFrom 33 = .ok (.bipush 6, 2) := by decide +kernel
theorem dX8_copyFrom_35 : decode cX8_copyFrom 35 = .ok (.invokestatic 37, 3) := by decide +kernel
theorem dX8_copyFrom_38 : decode cX8_copyFrom 38 = .ok (.aload_n 1, 1) := by decide +kernel
theorem dX8_copyFrom_39 : decode cX8_copyFrom 39 = .ok (.getfield 22, 3) := by decide +kernel
theorem dX8_copyFrom_42 : decode cX8_copyFrom 42 = .ok (.iconst 0, 1) := by decide +kernel
theorem dX8_copyFrom_43 : decode cX8_copyFrom 43 = .ok (.aload_n 0, 1) := by decide +kernel
theorem dX8_copyFrom_44 : decode cX8_copyFrom 44 = .ok (.getfield 22, 3) := by decide +kernel
theorem dX8_copyFrom_47 : decode cX8_copyFrom 47 = .ok (.iconst 0, 1) := by decide +kernel
theorem dX8_copyFrom_48 : decode cX8_copyFrom 48 = .ok (.bipush 6, 2) := by decide +kernel
theorem dX8_copyFrom_50 : decode cX8_copyFrom 50 = .ok (.invokestatic 37, 3) := by decide +kernel
theorem dX8_copyFrom_53 : decode cX8_copyFrom 53 = .ok (.return_, 1) := by decide +kernel
theorem dX9_init_0 : decode cX9_init 0 = .ok (.aload_n 0, 1) := by decide +kernel
theorem dX9_init_1 : decode cX9_init 1 = .ok (.invokespecial 1, 3) := by decide +kernel
theorem dX9_init_4 : decode cX9_init 4 = .ok (.aload_n 0, 1) := by decide +kernel
theorem dX9_init_5 : decode cX9_init 5 = .ok (.new 7, 3) := by decide +kernel
theorem dX9_init_8 : decode cX9_init 8 = .ok (.dup, 1) := by decide +kernel
theorem dX9_init_9 : decode cX9_init 9 = .ok (.invokespecial 9, 3) := by decide +kernel
theorem dX9_init_12 : decode cX9_init 12 = .ok (.putfield 10, 3) := by decide +kernel
theorem dX9_init_15 : decode cX9_init 15 = .ok (.aload_n 0, 1) := by decide +kernel
theorem dX9_init_16 : decode cX9_init 16 = .ok (.new 16, 3) := by decide +kernel
theorem dX9_init_19 : decode cX9_init 19 = .ok (.dup, 1) := by decide +kernel
theorem dX9_init_20 : decode cX9_init 20 = .ok (.invokespecial 18, 3) := by decide +kernel
theorem dX9_init_23 : decode cX9_init 23 = .ok (.putfield 19, 3) := by decide +kernel
theorem dX9_init_26 : decode cX9_init 26 = .ok (.aload_n 0, 1) := by decide +kernel
theorem dX9_init_27 : decode cX9_init 27 = .ok (.new 23, 3) := by decide +kernel
theorem dX9_init_30 : decode cX9_init 30 = .ok (.dup, 1) := by decide +kernel
theorem dX9_init_31 : decode cX9_init 31 = .ok (.invokespecial 25, 3) := by decide +kernel
theorem dX9_init_34 : decode cX9_init 34 = .ok (.putfield 26, 3) := by decide +kernel
theorem dX9_init_37 : decode cX9_init 37 = .ok (.aload_n 0, 1) := by decide +kernel
theorem dX9_init_38 : decode cX9_init 38 = .ok (.new 30, 3) := by decide +kernel
theorem dX9_init_41 : decode cX9_init 41 = .ok (.dup, 1) := by decide +kernel
theorem dX9_init_42 : decode cX9_init 42 = .ok (.invokespecial 32, 3) := by decide +kernel
theorem dX9_init_45 : decode cX9_init 45 = .ok (.putfield 33, 3) := by decide +kernel
theorem dX9_init_48 : decode cX9_init 48 = .ok (.aload_n 0, 1) := by decide +kernel
theorem dX9_init_49 : decode cX9_init 49 = .ok (.new 37, 3) := by decide +kernel
theorem dX9_init_52 : decode cX9_init 52 = .ok (.dup, 1) := by decide +kernel
theorem dX9_init_53 : decode cX9_init 53 = .ok (.invokespecial 39, 3) := by decide +kernel
theorem dX9_init_56 : decode cX9_init 56 = .ok (.putfield 40, 3) := by decide +kernel
theorem dX9_init_59 : decode cX9_init 59 = .ok (.aload_n 0, 1) := by decide +kernel
theorem dX9_init_60 : decode cX9_init 60 = .ok (.new 44, 3) := by decide +kernel
theorem dX9_init_63 : decode cX9_init 63 = .ok (.dup, 1) := by decide +kernel
theorem dX9_init_64 : decode cX9_init 64 = .ok (.invokespecial 46, 3) := by decide +kernel
theorem dX9_init_67 : decode cX9_init 67 = .ok (.putfield 47, 3) := by decide +kernel
theorem dX9_init_70 : decode cX9_init 70 = .ok (.aload_n 0, 1) := by decide +kernel
theorem dX9_init_71 : decode cX9_init 71 = .ok (.bipush 10, 2) := by decide +kernel
theorem dX9_init_73 : decode cX9_init 73 = .ok (.putfield 51, 3) := by decide +kernel
theorem dX9_init_76 : decode cX9_init 76 = .ok (.aload_n 0, 1) := by decide +kernel
theorem dX9_init_77 : decode cX9_init 77 = .ok (.bipush 50, 2) := by decide +kernel
theorem dX9_init_79 : decode cX9_init 79 = .ok (.putfield 55, 3) := by decide +kernel
theorem dX9_init_82 : decode cX9_init 82 = .ok (.aload_n 0, 1) := by decide +kernel
theorem dX9_init_83 : decode cX9_init 83 = .ok (.sipush 200, 3) := by decide +kernel
theorem dX9_init_86 : decode cX9_init 86 = .ok (.putfield 58, 3) := by decide +kernel
theorem dX9_init_89 : decode cX9_init 89 = .ok (.aload_n 0, 1) := by decide +kernel
theorem dX9_init_90 : decode cX9_init 90 = .ok (.iconst 1, 1) := by decide +kernel
theorem dX9_init_91 : decode cX9_init 91 = .ok (.putfield 61, 3) := by decide +kernel
theorem dX9_init_94 : decode cX9_init 94 = .ok (.return_, 1) := by decide +kernel
theorem dX9_setRule_0 : decode cX9_setRule 0 = .ok (.iload_n 1, 1) := by decide +kernel
theorem dX9_setRule_1 : decode cX9_setRule 1 = .ok (.ifCond .ne 22, 3) := by decide +kernel
theorem dX9_setRule_4 : decode cX9_setRule 4 = .ok (.iload_n 2, 1) := by decide +kernel
theorem dX9_setRule_5 : decode cX9_setRule 5 = .ok (.iconst 1, 1) := by decide +kernel
theorem dX9_setRule_6 : decode cX9_setRule 6 = .ok (.if_icmp .lt 17, 3) := by decide +kernel
theorem dX9_setRule_9 : decode cX9_setRule 9 = .ok (.iload_n 2, 1) := by decide +kernel
theorem dX9_setRule_10 : decode cX9_setRule 10 = .ok (.bipush 30, 2) := by decide +kernel
theorem dX9_setRule_12 : decode cX9_setRule 12 = .ok (.if_icmp .gt 11, 3) := by decide +kernel
theorem dX9_setRule_15 : decode cX9_setRule 15 = .ok (.aload_n 0, 1) := by decide +kernel
theorem dX9_setRule_16 : decode cX9_setRule 16 = .ok (.iload_n 2, 1) := by decide +kernel
theorem dX9_setRule_17 : decode cX9_setRule 17 = .ok (.putfield 51, 3) := by decide +kernel
theorem dX9_setRule_20 : decode cX9_setRule 20 = .ok (.goto 75, 3) := by decide +kernel
theorem dX9_setRule_23 : decode cX9_setRule 23 = .ok (.iload_n 1, 1) := by decide +kernel
theorem dX9_setRule_24 : decode cX9_setRule 24 = .ok (.iconst 1, 1) := by decide +kernel
theorem dX9_setRule_25 : decode cX9_setRule 25 = .ok (.if_icmp .ne 21, 3) := by decide +kernel
theorem dX9_setRule_28 : decode cX9_setRule 28 = .ok (.iload_n 2, 1) := by decide +kernel
theorem dX9_setRule_29 : decode cX9_setRule 29 = .ok (.ifCond .lt 17, 3) := by decide +kernel
theorem dX9_setRule_32 : decode cX9_setRule 32 = .ok (.iload_n 2, 1) := by decide +kernel
theorem dX9_setRule_33 : decode cX9_setRule 33 = .ok (.bipush 100, 2) := by decide +kernel
theorem dX9_setRule_35 : decode cX9_setRule 35 = .ok (.if_icmp .gt 11, 3) := by decide +kernel
theorem dX9_setRule_38 : decode cX9_setRule 38 = .ok (.aload_n 0, 1) := by decide +kernel
theorem dX9_setRule_39 : decode cX9_setRule 39 = .ok (.iload_n 2, 1) := by decide +kernel
theorem dX9_setRule_40 : decode cX9_setRule 40 = .ok (.putfield 55, 3) := by decide +kernel
theorem dX9_setRule_43 : decode cX9_setRule 43 = .ok (.goto 52, 3) := by decide +kernel
theorem dX9_setRule_46 : decode cX9_setRule 46 = .ok (.iload_n 1, 1) := by decide +kernel
theorem dX9_setRule_47 : decode cX9_setRule 47 = .ok (.iconst 2, 1) := by decide +kernel
theorem dX9_setRule_48 : decode cX9_setRule 48 = .ok (.if_icmp .ne 23, 3) := by decide +kernel
theorem dX9_setRule_51 : decode cX9_setRule 51 = .ok (.iload_n 2, 1) := by decide +kernel
theorem dX9_setRule_52 : decode cX9_setRule 52 = .ok (.iconst 1, 1) := by decide +kernel
theorem dX9_setRule_53 : decode cX9_setRule 53 = .ok (.if_icmp .lt 18, 3) := by decide +kernel
theorem dX9_setRule_56 : decode cX9_setRule 56 = .ok (.iload_n 2, 1) := by decide +kernel
theorem dX9_setRule_57 : decode cX9_setRule 57 = .ok (.sipush 5000, 3) := by decide +kernel
theorem dX9_setRule_60 : decode cX9_setRule 60 = .ok (.if_icmp .gt 11, 3) := by decide +kernel
theorem dX9_setRule_63 : decode cX9_setRule 63 = .ok (.aload_n 0, 1) := by decide +kernel
theorem dX9_setRule_64 : decode cX9_setRule 64 = .ok (.iload_n 2, 1) := by decide +kernel
theorem dX9_setRule_65 : decode cX9_setRule 65 = .ok (.putfield 58, 3) := by decide +kernel
theorem dX9_setRule_68 : decode cX9_setRule 68 = .ok (.goto 27, 3) := by decide +kernel
theorem dX9_setRule_71 : decode cX9_setRule 71 = .ok (.iload_n 1, 1) := by decide +kernel
theorem dX9_setRule_72 : decode cX9_setRule 72 = .ok (.iconst 3, 1) := by decide +kernel
theorem dX9_setRule_73 : decode cX9_setRule 73 = .ok (.if_icmp .ne 20, 3) := by decide +kernel
theorem dX9_setRule_76 : decode cX9_setRule 76 = .ok (.iload_n 2, 1) := by decide +kernel
theorem dX9_setRule_77 : decode cX9_setRule 77 = .ok (.ifCond .lt 16, 3) := by decide +kernel
theorem dX9_setRule_80 : decode cX9_setRule 80 = .ok (.iload_n 2, 1) := by decide +kernel
theorem dX9_setRule_81 : decode cX9_setRule 81 = .ok (.iconst 3, 1) := by decide +kernel
theorem dX9_setRule_82 : decode cX9_setRule 82 = .ok (.if_icmp .gt 11, 3) := by decide +kernel
theorem dX9_setRule_85 : decode cX9_setRule 85 = .ok (.aload_n 0, 1) := by decide +kernel
theorem dX9_setRule_86 : decode cX9_setRule 86 = .ok (.iload_n 2, 1) := by decide +kernel
theorem dX9_setRule_87 : decode cX9_setRule 87 = .ok (.putfield 61, 3) := by decide +kernel
theorem dX9_setRule_90 : decode cX9_setRule 90 = .ok (.goto 5, 3) := by decide +kernel
theorem dX9_setRule_93 : decode cX9_setRule 93 = .ok (.iconst 0, 1) := by decide +kernel
theorem dX9_setRule_94 : decode cX9_setRule 94 = .ok (.ireturn, 1) := by decide +kernel
theorem dX9_setRule_95 : decode cX9_setRule 95 = .ok (.iconst 1, 1) := by decide +kernel
theorem dX9_setRule_96 : decode cX9_setRule 96 = .ok (.ireturn, 1) := by decide +kernel
theorem dX9_copyFrom_0 : decode cX9_copyFrom 0 = .ok (.aload_n 0, 1) := by decide +kernel
theorem dX9_copyFrom_1 : decode cX9_copyFrom 1 = .ok (.getfield 10, 3) := by decide +kernel
theorem dX9_copyFrom_4 : decode cX9_copyFrom 4 = .ok (.aload_n 1, 1) := by decide +kernel
theorem dX9_copyFrom_5 : decode cX9_copyFrom 5 = .ok (.getfield 10, 3) := by decide +kernel
theorem dX9_copyFrom_8 : decode cX9_copyFrom 8 = .ok (.invokevirtual 64, 3) := by decide +kernel
theorem dX9_copyFrom_11 : decode cX9_copyFrom 11 = .ok (.aload_n 0, 1) := by decide +kernel
theorem dX9_copyFrom_12 : decode cX9_copyFrom 12 = .ok (.getfield 19, 3) := by decide +kernel
theorem dX9_copyFrom_15 : decode cX9_copyFrom 15 = .ok (.aload_n 1, 1) := by decide +kernel
theorem dX9_copyFrom_16 : decode cX9_copyFrom 16 = .ok (.getfield 19, 3) := by decide +kernel
theorem dX9_copyFrom_19 : decode cX9_copyFrom 19 = .ok (.invokevirtual 68, 3) := by decide +kernel
theorem dX9_copyFrom_22 : decode cX9_copyFrom 22 = .ok (.aload_n 0, 1) := by decide +kernel
theorem dX9_copyFrom_23 : decode cX9_copyFrom 23 = .ok (.getfield 26, 3) := by decide +kernel
theorem dX9_copyFrom_26 : decode cX9_copyFrom 26 = .ok (.aload_n 1, 1) := by decide +kernel
theorem dX9_copyFrom_27 : decode cX9_copyFrom 27 = .ok (.getfield 26, 3) := by decide +kernel
theorem dX9_copyFrom_30 : decode cX9_copyFrom 30 = .ok (.invokevirtual 71, 3) := by decide +kernel
theorem dX9_copyFrom_33 : decode cX9_copyFrom 33 = .ok (.aload_n 0, 1) := by decide +kernel
theorem dX9_copyFrom_34 : decode cX9_copyFrom 34 = .ok (.getfield 33, 3) := by decide +kernel
theorem dX9_copyFrom_37 : decode cX9_copyFrom 37 = .ok (.aload_n 1, 1) := by decide +kernel
theorem dX9_copyFrom_38 : decode cX9_copyFrom 38 = .ok (.getfield 33, 3) := by decide +kernel
theorem dX9_copyFrom_41 : decode cX9_copyFrom 41 = .ok (.invokevirtual 74, 3) := by decide +kernel
theorem dX9_copyFrom_44 : decode cX9_copyFrom 44 = .ok (.aload_n 0, 1) := by decide +kernel
theorem dX9_copyFrom_45 : decode cX9_copyFrom 45 = .ok (.getfield 40, 3) := by decide +kernel
theorem dX9_copyFrom_48 : decode cX9_copyFrom 48 = .ok (.aload_n 1, 1) := by decide +kernel
theorem dX9_copyFrom_49 : decode cX9_copyFrom 49 = .ok (.getfield 40, 3) := by decide +kernel
theorem dX9_copyFrom_52 : decode cX9_copyFrom 52 = .ok (.invokevirtual 77, 3) := by decide +kernel
theorem dX9_copyFrom_55 : decode cX9_copyFrom 55 = .ok (.aload_n 0, 1) := by decide +kernel
theorem dX9_copyFrom_56 : decode cX9_copyFrom 56 = .ok (.getfield 47, 3) := by decide +kernel
theorem dX9_copyFrom_59 : decode cX9_copyFrom 59 = .ok (.aload_n 1, 1) := by decide +kernel
theorem dX9_copyFrom_60 : decode cX9_copyFrom 60 = .ok (.getfield 47, 3) := by decide +kernel
theorem dX9_copyFrom_63 : decode cX9_copyFrom 63 = .ok (.invokevirtual 80, 3) := by decide +kernel
theorem dX9_copyFrom_66 : decode cX9_copyFrom 66 = .ok (.aload_n 0, 1) := by decide +kernel
theorem dX9_copyFrom_67 : decode cX9_copyFrom 67 = .ok (.aload_n 1, 1) := by decide +kernel
theorem dX9_copyFrom_68 : decode cX9_copyFrom 68 = .ok (.getfield 51, 3) := by decide +kernel
theorem dX9_copyFrom_71 : decode cX9_copyFrom 71 = .ok (.putfield 51, 3) := by decide +kernel
theorem dX9_copyFrom_74 : decode cX9_copyFrom 74 = .ok (.aload_n 0, 1) := by decide +kernel
theorem dX9_copyFrom_75 : decode cX9_copyFrom 75 = .ok (.aload_n 1, 1) := by decide +kernel
theorem dX9_copyFrom_76 : decode cX9_copyFrom 76 = .ok (.getfield 55, 3) := by decide +kernel
theorem dX9_copyFrom_79 : decode cX9_copyFrom 79 = .ok (.putfield 55, 3) := by decide +kernel
theorem dX9_copyFrom_82 : decode cX9_copyFrom 82 = .ok (.aload_n 0, 1) := by decide +kernel
theorem dX9_copyFrom_83 : decode cX9_copyFrom 83 = .ok (.aload_n 1, 1) := by decide +kernel
theorem dX9_copyFrom_84 : decode cX9_copyFrom 84 = .ok (.getfield 58, 3) := by decide +kernel
theorem dX9_copyFrom_87 : decode cX9_copyFrom 87 = .ok (.putfield 58, 3) := by decide +kernel
theorem dX9_copyFrom_90 : decode cX9_copyFrom 90 = .ok (.aload_n 0, 1) := by decide +kernel
theorem dX9_copyFrom_91 : decode cX9_copyFrom 91 = .ok (.aload_n 1, 1) := by decide +kernel
theorem dX9_copyFrom_92 : decode cX9_copyFrom 92 = .ok (.getfield 61, 3) := by decide +kernel
theorem dX9_copyFrom_95 : decode cX9_copyFrom 95 = .ok (.putfield 61, 3) := by decide +kernel
theorem dX9_copyFrom_98 : decode cX9_copyFrom 98 = .ok (.return_, 1) := by decide +kernel
theorem dX10_init_0 : decode cX10_init 0 = .ok (.aload_n 0, 1) := by decide +kernel
theorem dX10_init_1 : decode cX10_init 1 = .ok (.invokespecial 1, 3) := by decide +kernel
theorem dX10_init_4 : decode cX10_init 4 = .ok (.aload_n 0, 1) := by decide +kernel
theorem dX10_init_5 : decode cX10_init 5 = .ok (.new 7, 3) := by decide +kernel
theorem dX10_init_8 : decode cX10_init 8 = .ok (.dup, 1) := by decide +kernel
theorem dX10_init_9 : decode cX10_init 9 = .ok (.invokespecial 9, 3) := by decide +kernel
theorem dX10_init_12 : decode cX10_init 12 = .ok (.putfield 10, 3) := by decide +kernel
theorem dX10_init_15 : decode cX10_init 15 = .ok (.aload_n 0, 1) := by decide +kernel
theorem dX10_init_16 : decode cX10_init 16 = .ok (.iconst 3, 1) := by decide +kernel
theorem dX10_init_17 : decode cX10_init 17 = .ok (.anewarray 7, 3) := by decide +kernel
theorem dX10_init_20 : decode cX10_init 20 = .ok (.putfield 16, 3) := by decide +kernel
theorem dX10_init_23 : decode cX10_init 23 = .ok (.aload_n 0, 1) := by decide +kernel
theorem dX10_init_24 : decode cX10_init 24 = .ok (.new 20, 3) := by decide +kernel
theorem dX10_init_27 : decode cX10_init 27 = .ok (.dup, 1) := by decide +kernel
theorem dX10_init_28 : decode cX10_init 28 = .ok (.invokespecial 22, 3) := by decide +kernel
theorem dX10_init_31 : decode cX10_init 31 = .ok (.putfield 23, 3) := by decide +kernel
theorem dX10_init_34 : decode cX10_init 34 = .ok (.aload_n 0, 1) := by decide +kernel
theorem dX10_init_35 : decode cX10_init 35 = .ok (.new 27, 3) := by decide +kernel
theorem dX10_init_38 : decode cX10_init 38 = .ok (.dup, 1) := by decide +kernel
theorem dX10_init_39 : decode cX10_init 39 = .ok (.invokespecial 29, 3) := by decide +kernel
theorem dX10_init_42 : decode cX10_init 42 = .ok (.putfield 30, 3) := by decide +kernel
theorem dX10_init_45 : decode cX10_init 45 = .ok (.aload_n 0, 1) := by decide +kernel
theorem dX10_init_46 : decode cX10_init 46 = .ok (.new 34, 3) := by decide +kernel
theorem dX10_init_49 : decode cX10_init 49 = .ok (.dup, 1) := by decide +kernel
theorem dX10_init_50 : decode cX10_init 50 = .ok (.invokespecial 36, 3) := by decide +kernel
theorem dX10_init_53 : decode cX10_init 53 = .ok (.putfield 37, 3) := by decide +kernel
theorem dX10_init_56 : decode cX10_init 56 = .ok (.return_, 1) := by decide +kernel
theorem dX10_bin_0 : decode cX10_bin 0 = .ok (.aload_n 0, 1) := by decide +kernel
theorem dX10_bin_1 : decode cX10_bin 1 = .ok (.getfield 10, 3) := by decide +kernel
theorem dX10_bin_4 : decode cX10_bin 4 = .ok (.getfield 41, 3) := by decide +kernel
theorem dX10_bin_7 : decode cX10_bin 7 = .ok (.iload_n 1, 1) := by decide +kernel
theorem dX10_bin_8 : decode cX10_bin 8 = .ok (.iload_n 2, 1) := by decide +kernel
theorem dX10_bin_9 : decode cX10_bin 9 = .ok (.invokevirtual 45, 3) := by decide +kernel
theorem dX10_bin_12 : decode cX10_bin 12 = .ok (.ireturn, 1) := by decide +kernel
theorem dX10_fill_0 : decode cX10_fill 0 = .ok (.aload_n 0, 1) := by decide +kernel
theorem dX10_fill_1 : decode cX10_fill 1 = .ok (.getfield 10, 3) := by decide +kernel
theorem dX10_fill_4 : decode cX10_fill 4 = .ok (.getfield 41, 3) := by decide +kernel
theorem dX10_fill_7 : decode cX10_fill 7 = .ok (.iload_n 1, 1) := by decide +kernel
theorem dX10_fill_8 : decode cX10_fill 8 = .ok (.iload_n 2, 1) := by decide +kernel
theorem dX10_fill_9 : decode cX10_fill 9 = .ok (.invokevirtual 51, 3) := by decide +kernel
theorem dX10_fill_12 : decode cX10_fill 12 = .ok (.ireturn, 1) := by decide +kernel
theorem dX10_lot_0 : decode cX10_lot 0 = .ok (.aload_n 0, 1) := by decide +kernel
theorem dX10_lot_1 : decode cX10_lot 1 = .ok (.getfield 10, 3) := by decide +kernel
theorem dX10_lot_4 : decode cX10_lot 4 = .ok (.getfield 55, 3) := by decide +kernel
theorem dX10_lot_7 : decode cX10_lot 7 = .ok (.iload_n 1, 1) := by decide +kernel
theorem dX10_lot_8 : decode cX10_lot 8 = .ok (.invokevirtual 59, 3) := by decide +kernel
theorem dX10_lot_11 : decode cX10_lot 11 = .ok (.ireturn, 1) := by decide +kernel
theorem dX10_rule_0 : decode cX10_rule 0 = .ok (.aload_n 0, 1) := by decide +kernel
theorem dX10_rule_1 : decode cX10_rule 1 = .ok (.getfield 10, 3) := by decide +kernel
theorem dX10_rule_4 : decode cX10_rule 4 = .ok (.iload_n 1, 1) := by decide +kernel
theorem dX10_rule_5 : decode cX10_rule 5 = .ok (.iload_n 2, 1) := by decide +kernel
theorem dX10_rule_6 : decode cX10_rule 6 = .ok (.invokevirtual 64, 3) := by decide +kernel
theorem dX10_rule_9 : decode cX10_rule 9 = .ok (.istore_n 3, 1) := by decide +kernel
theorem dX10_rule_10 : decode cX10_rule 10 = .ok (.iload_n 3, 1) := by decide +kernel
theorem dX10_rule_11 : decode cX10_rule 11 = .ok (.ifCond .eq 15, 3) := by decide +kernel
theorem dX10_rule_14 : decode cX10_rule 14 = .ok (.iload_n 1, 1) := by decide +kernel
theorem dX10_rule_15 : decode cX10_rule 15 = .ok (.iconst 3, 1) := by decide +kernel
theorem dX10_rule_16 : decode cX10_rule 16 = .ok (.if_icmp .ne 10, 3) := by decide +kernel
theorem dX10_rule_19 : decode cX10_rule 19 = .ok (.aload_n 0, 1) := by decide +kernel
theorem dX10_rule_20 : decode cX10_rule 20 = .ok (.getfield 37, 3) := by decide +kernel
theorem dX10_rule_23 : decode cX10_rule 23 = .ok (.invokevirtual 68, 3) := by decide +kernel
theorem dX10_rule_26 : decode cX10_rule 26 = .ok (.iload_n 3, 1) := by decide +kernel
theorem dX10_rule_27 : decode cX10_rule 27 = .ok (.ireturn, 1) := by decide +kernel
theorem dX10_lay_0 : decode cX10_lay 0 = .ok (.aload_n 0, 1) := by decide +kernel
theorem dX10_lay_1 : decode cX10_lay 1 = .ok (.getfield 10, 3) := by decide +kernel
theorem dX10_lay_4 : decode cX10_lay 4 = .ok (.getfield 41, 3) := by decide +kernel
theorem dX10_lay_7 : decode cX10_lay 7 = .ok (.astore 4, 2) := by decide +kernel
theorem dX10_lay_9 : decode cX10_lay 9 = .ok (.aload_n 0, 1) := by decide +kernel
theorem dX10_lay_10 : decode cX10_lay 10 = .ok (.getfield 10, 3) := by decide +kernel
theorem dX10_lay_13 : decode cX10_lay 13 = .ok (.getfield 71, 3) := by decide +kernel
theorem dX10_lay_16 : decode cX10_lay 16 = .ok (.invokevirtual 75, 3) := by decide +kernel
theorem dX10_lay_19 : decode cX10_lay 19 = .ok (.ifCond .ne 34, 3) := by decide +kernel
theorem dX10_lay_22 : decode cX10_lay 22 = .ok (.iload_n 3, 1) := by decide +kernel
theorem dX10_lay_23 : decode cX10_lay 23 = .ok (.bipush 10, 2) := by decide +kernel
theorem dX10_lay_25 : decode cX10_lay 25 = .ok (.if_icmp .lt 28, 3) := by decide +kernel
theorem dX10_lay_28 : decode cX10_lay 28 = .ok (.iload_n 3, 1) := by decide +kernel
theorem dX10_lay_29 : decode cX10_lay 29 = .ok (.sipush 10000, 3) := by decide +kernel
theorem dX10_lay_32 : decode cX10_lay 32 = .ok (.if_icmp .gt 21, 3) := by decide +kernel
theorem dX10_lay_35 : decode cX10_lay 35 = .ok (.aload 4, 2) := by decide +kernel
theorem dX10_lay_37 : decode cX10_lay 37 = .ok (.iload_n 1, 1) := by decide +kernel
theorem dX10_lay_38 : decode cX10_lay 38 = .ok (.invokevirtual 81, 3) := by decide +kernel
theorem dX10_lay_41 : decode cX10_lay 41 = .ok (.ifCond .eq 12, 3) := by decide +kernel
theorem dX10_lay_44 : decode cX10_lay 44 = .ok (.aload 4, 2) := by decide +kernel
theorem dX10_lay_46 : decode cX10_lay 46 = .ok (.iload_n 2, 1) := by decide +kernel
theorem dX10_lay_47 : decode cX10_lay 47 = .ok (.invokevirtual 81, 3) := by decide +kernel
theorem dX10_lay_50 : decode cX10_lay 50 = .ok (.ifCond .ne 5, 3) := by decide +kernel
theorem dX10_lay_53 : decode cX10_lay 53 = .ok (.iconst (-1), 1) := by decide +kernel
theorem dX10_lay_54 : decode cX10_lay 54 = .ok (.ireturn, 1) := by decide +kernel
theorem dX10_lay_55 : decode cX10_lay 55 = .ok (.iload_n 3, 1) := by decide +kernel
theorem dX10_lay_56 : decode cX10_lay 56 = .ok (.iconst 4, 1) := by decide +kernel
theorem dX10_lay_57 : decode cX10_lay 57 = .ok (.imul, 1) := by decide +kernel
theorem dX10_lay_58 : decode cX10_lay 58 = .ok (.bipush 10, 2) := by decide +kernel
theorem dX10_lay_60 : decode cX10_lay 60 = .ok (.idiv, 1) := by decide +kernel
theorem dX10_lay_61 : decode cX10_lay 61 = .ok (.istore 5, 2) := by decide +kernel
theorem dX10_lay_63 : decode cX10_lay 63 = .ok (.iload_n 3, 1) := by decide +kernel
theorem dX10_lay_64 : decode cX10_lay 64 = .ok (.iload 5, 2) := by decide +kernel
theorem dX10_lay_66 : decode cX10_lay 66 = .ok (.isub, 1) := by decide +kernel
theorem dX10_lay_67 : decode cX10_lay 67 = .ok (.istore 6, 2) := by decide +kernel
theorem dX10_lay_69 : decode cX10_lay 69 = .ok (.iload_n 3, 1) := by decide +kernel
theorem dX10_lay_70 : decode cX10_lay 70 = .ok (.aload_n 0, 1) := by decide +kernel
theorem dX10_lay_71 : decode cX10_lay 71 = .ok (.getfield 10, 3) := by decide +kernel
theorem dX10_lay_74 : decode cX10_lay 74 = .ok (.getfield 85, 3) := by decide +kernel
theorem dX10_lay_77 : decode cX10_lay 77 = .ok (.imul, 1) := by decide +kernel
theorem dX10_lay_78 : decode cX10_lay 78 = .ok (.bipush 100, 2) := by decide +kernel
theorem dX10_lay_80 : decode cX10_lay 80 = .ok (.idiv, 1) := by decide +kernel
theorem dX10_lay_81 : decode cX10_lay 81 = .ok (.istore 7, 2) := by decide +kernel
theorem dX10_lay_83 : decode cX10_lay 83 = .ok (.aload 4, 2) := by decide +kernel
theorem dX10_lay_85 : decode cX10_lay 85 = .ok (.iload_n 1, 1) := by decide +kernel
theorem dX10_lay_86 : decode cX10_lay 86 = .ok (.iload 5, 2) := by decide +kernel
theorem dX10_lay_88 : decode cX10_lay 88 = .ok (.invokevirtual 89, 3) := by decide +kernel
theorem dX10_lay_91 : decode cX10_lay 91 = .ok (.aload 4, 2) := by decide +kernel
theorem dX10_lay_93 : decode cX10_lay 93 = .ok (.iload_n 2, 1) := by decide +kernel
theorem dX10_lay_94 : decode cX10_lay 94 = .ok (.iload 6, 2) := by decide +kernel
theorem dX10_lay_96 : decode cX10_lay 96 = .ok (.invokevirtual 89, 3) := by decide +kernel
theorem dX10_lay_99 : decode cX10_lay 99 = .ok (.iadd, 1) := by decide +kernel
theorem dX10_lay_100 : decode cX10_lay 100 = .ok (.istore 8, 2) := by decide +kernel
theorem dX10_lay_102 : decode cX10_lay 102 = .ok (.aload 4, 2) := by decide +kernel
theorem dX10_lay_104 : decode cX10_lay 104 = .ok (.iload_n 1, 1) := by decide +kernel
theorem dX10_lay_105 : decode cX10_lay 105 = .ok (.iload 5, 2) := by decide +kernel
theorem dX10_lay_107 : decode cX10_lay 107 = .ok (.iload_n 2, 1) := by decide +kernel
theorem dX10_lay_108 : decode cX10_lay 108 = .ok (.iload 6, 2) := by decide +kernel
theorem dX10_lay_110 : decode cX10_lay 110 = .ok (.invokevirtual 92, 3) := by decide +kernel
theorem dX10_lay_113 : decode cX10_lay 113 = .ok (.ifCond .eq 35, 3) := by decide +kernel
theorem dX10_lay_116 : decode cX10_lay 116 = .ok (.aload_n 0, 1) := by decide +kernel
theorem dX10_lay_117 : decode cX10_lay 117 = .ok (.getfield 10, 3) := by decide +kernel
theorem dX10_lay_120 : decode cX10_lay 120 = .ok (.getfield 55, 3) := by decide +kernel
theorem dX10_lay_123 : decode cX10_lay 123 = .ok (.invokevirtual 96, 3) := by decide +kernel
theorem dX10_lay_126 : decode cX10_lay 126 = .ok (.iload 7, 2) := by decide +kernel
theorem dX10_lay_128 : decode cX10_lay 128 = .ok (.if_icmp .lt 20, 3) := by decide +kernel
theorem dX10_lay_131 : decode cX10_lay 131 = .ok (.bipush 100, 2) := by decide +kernel
theorem dX10_lay_133 : decode cX10_lay 133 = .ok (.iload 8, 2) := by decide +kernel
theorem dX10_lay_135 : decode cX10_lay 135 = .ok (.imul, 1) := by decide +kernel
theorem dX10_lay_136 : decode cX10_lay 136 = .ok (.aload_n 0, 1) := by decide +kernel
theorem dX10_lay_137 : decode cX10_lay 137 = .ok (.getfield 10, 3) := by decide +kernel
theorem dX10_lay_140 : decode cX10_lay 140 = .ok (.getfield 100, 3) := by decide +kernel
theorem dX10_lay_143 : decode cX10_lay 143 = .ok (.iload_n 3, 1) := by decide +kernel
theorem dX10_lay_144 : decode cX10_lay 144 = .ok (.imul, 1) := by decide +kernel
theorem dX10_lay_145 : decode cX10_lay 145 = .ok (.if_icmp .le 5, 3) := by decide +kernel
theorem dX10_lay_148 : decode cX10_lay 148 = .ok (.iconst (-1), 1) := by decide +kernel
theorem dX10_lay_149 : decode cX10_lay 149 = .ok (.ireturn, 1) := by decide +kernel
theorem dX10_lay_150 : decode cX10_lay 150 = .ok (.aload 4, 2) := by decide +kernel
theorem dX10_lay_152 : decode cX10_lay 152 = .ok (.iload_n 1, 1) := by decide +kernel
theorem dX10_lay_153 : decode cX10_lay 153 = .ok (.invokevirtual 103, 3) := by decide +kernel
theorem dX10_lay_156 : decode cX10_lay 156 = .ok (.iload 5, 2) := by decide +kernel
theorem dX10_lay_158 : decode cX10_lay 158 = .ok (.imul, 1) := by decide +kernel
theorem dX10_lay_159 : decode cX10_lay 159 = .ok (.aload 4, 2) := by decide +kernel
theorem dX10_lay_161 : decode cX10_lay 161 = .ok (.iload_n 2, 1) := by decide +kernel
theorem dX10_lay_162 : decode cX10_lay 162 = .ok (.invokevirtual 103, 3) := by decide +kernel
theorem dX10_lay_165 : decode cX10_lay 165 = .ok (.iload 6, 2) := by decide +kernel
theorem dX10_lay_167 : decode cX10_lay 167 = .ok (.imul, 1) := by decide +kernel
theorem dX10_lay_168 : decode cX10_lay 168 = .ok (.iadd, 1) := by decide +kernel
theorem dX10_lay_169 : decode cX10_lay 169 = .ok (.iload_n 3, 1) := by decide +kernel
theorem dX10_lay_170 : decode cX10_lay 170 = .ok (.idiv, 1) := by decide +kernel
theorem dX10_lay_171 : decode cX10_lay 171 = .ok (.istore 9, 2) := by decide +kernel
theorem dX10_lay_173 : decode cX10_lay 173 = .ok (.aload 4, 2) := by decide +kernel
theorem dX10_lay_175 : decode cX10_lay 175 = .ok (.iload_n 1, 1) := by decide +kernel
theorem dX10_lay_176 : decode cX10_lay 176 = .ok (.iload 5, 2) := by decide +kernel
theorem dX10_lay_178 : decode cX10_lay 178 = .ok (.invokevirtual 106, 3) := by decide +kernel
theorem dX10_lay_181 : decode cX10_lay 181 = .ok (.aload 4, 2) := by decide +kernel
theorem dX10_lay_183 : decode cX10_lay 183 = .ok (.iload_n 2, 1) := by decide +kernel
theorem dX10_lay_184 : decode cX10_lay 184 = .ok (.iload 6, 2) := by decide +kernel
theorem dX10_lay_186 : decode cX10_lay 186 = .ok (.invokevirtual 106, 3) := by decide +kernel
theorem dX10_lay_189 : decode cX10_lay 189 = .ok (.aload_n 0, 1) := by decide +kernel
theorem dX10_lay_190 : decode cX10_lay 190 = .ok (.getfield 10, 3) := by decide +kernel
theorem dX10_lay_193 : decode cX10_lay 193 = .ok (.getfield 71, 3) := by decide +kernel
theorem dX10_lay_196 : decode cX10_lay 196 = .ok (.invokevirtual 110, 3) := by decide +kernel
theorem dX10_lay_199 : decode cX10_lay 199 = .ok (.istore 10, 2) := by decide +kernel
theorem dX10_lay_201 : decode cX10_lay 201 = .ok (.aload_n 0, 1) := by decide +kernel
theorem dX10_lay_202 : decode cX10_lay 202 = .ok (.getfield 10, 3) := by decide +kernel
theorem dX10_lay_205 : decode cX10_lay 205 = .ok (.getfield 71, 3) := by decide +kernel
theorem dX10_lay_208 : decode cX10_lay 208 = .ok (.iload 10, 2) := by decide +kernel
theorem dX10_lay_210 : decode cX10_lay 210 = .ok (.iconst 0, 1) := by decide +kernel
theorem dX10_lay_211 : decode cX10_lay 211 = .ok (.iload_n 3, 1) := by decide +kernel
theorem dX10_lay_212 : decode cX10_lay 212 = .ok (.invokevirtual 112, 3) := by decide +kernel
theorem dX10_lay_215 : decode cX10_lay 215 = .ok (.aload_n 0, 1) := by decide +kernel
theorem dX10_lay_216 : decode cX10_lay 216 = .ok (.getfield 10, 3) := by decide +kernel
theorem dX10_lay_219 : decode cX10_lay 219 = .ok (.getfield 71, 3) := by decide +kernel
theorem dX10_lay_222 : decode cX10_lay 222 = .ok (.iload 10, 2) := by decide +kernel
theorem dX10_lay_224 : decode cX10_lay 224 = .ok (.iconst 1, 1) := by decide +kernel
theorem dX10_lay_225 : decode cX10_lay 225 = .ok (.iload 7, 2) := by decide +kernel
theorem dX10_lay_227 : decode cX10_lay 227 = .ok (.invokevirtual 112, 3) := by decide +kernel
theorem dX10_lay_230 : decode cX10_lay 230 = .ok (.aload_n 0, 1) := by decide +kernel
theorem dX10_lay_231 : decode cX10_lay 231 = .ok (.getfield 10, 3) := by decide +kernel
theorem dX10_lay_234 : decode cX10_lay 234 = .ok (.getfield 71, 3) := by decide +kernel
theorem dX10_lay_237 : decode cX10_lay 237 = .ok (.iload 10, 2) := by decide +kernel
theorem dX10_lay_239 : decode cX10_lay 239 = .ok (.iconst 2, 1) := by decide +kernel
theorem dX10_lay_240 : decode cX10_lay 240 = .ok (.iload 9, 2) := by decide +kernel
theorem dX10_lay_242 : decode cX10_lay 242 = .ok (.invokevirtual 112, 3) := by decide +kernel
theorem dX10_lay_245 : decode cX10_lay 245 = .ok (.aload_n 0, 1) := by decide +kernel
theorem dX10_lay_246 : decode cX10_lay 246 = .ok (.getfield 10, 3) := by decide +kernel
theorem dX10_lay_249 : decode cX10_lay 249 = .ok (.getfield 71, 3) := by decide +kernel
theorem dX10_lay_252 : decode cX10_lay 252 = .ok (.iload 10, 2) := by decide +kernel
theorem dX10_lay_254 : decode cX10_lay 254 = .ok (.iconst 3, 1) := by decide +kernel
theorem dX10_lay_255 : decode cX10_lay 255 = .ok (.iload 8, 2) := by decide +kernel
theorem dX10_lay_257 : decode cX10_lay 257 = .ok (.invokevirtual 112, 3) := by decide +kernel
theorem dX10_lay_260 : decode cX10_lay 260 = .ok (.aload_n 0, 1) := by decide +kernel
theorem dX10_lay_261 : decode cX10_lay 261 = .ok (.getfield 10, 3) := by decide +kernel
theorem dX10_lay_264 : decode cX10_lay 264 = .ok (.getfield 71, 3) := by decide +kernel
theorem dX10_lay_267 : decode cX10_lay 267 = .ok (.iload 10, 2) := by decide +kernel
theorem dX10_lay_269 : decode cX10_lay 269 = .ok (.iconst 4, 1) := by decide +kernel
theorem dX10_lay_270 : decode cX10_lay 270 = .ok (.iload_n 1, 1) := by decide +kernel
theorem dX10_lay_271 : decode cX10_lay 271 = .ok (.invokevirtual 112, 3) := by decide +kernel
theorem dX10_lay_274 : decode cX10_lay 274 = .ok (.aload_n 0, 1) := by decide +kernel
theorem dX10_lay_275 : decode cX10_lay 275 = .ok (.getfield 10, 3) := by decide +kernel
theorem dX10_lay_278 : decode cX10_lay 278 = .ok (.getfield 71, 3) := by decide +kernel
theorem dX10_lay_281 : decode cX10_lay 281 = .ok (.iload 10, 2) := by decide +kernel
theorem dX10_lay_283 : decode cX10_lay 283 = .ok (.iconst 5, 1) := by decide +kernel
theorem dX10_lay_284 : decode cX10_lay 284 = .ok (.iload_n 2, 1) := by decide +kernel
theorem dX10_lay_285 : decode cX10_lay 285 = .ok (.invokevirtual 112, 3) := by decide +kernel
theorem dX10_lay_288 : decode cX10_lay 288 = .ok (.aload_n 0, 1) := by decide +kernel
theorem dX10_lay_289 : decode cX10_lay 289 = .ok (.getfield 10, 3) := by decide +kernel
theorem dX10_lay_292 : decode cX10_lay 292 = .ok (.getfield 71, 3) := by decide +kernel
theorem dX10_lay_295 : decode cX10_lay 295 = .ok (.iload 10, 2) := by decide +kernel
theorem dX10_lay_297 : decode cX10_lay 297 = .ok (.bipush 6, 2) := by decide +kernel
theorem dX10_lay_299 : decode cX10_lay 299 = .ok (.aload_n 0, 1) := by decide +kernel
theorem dX10_lay_300 : decode cX10_lay 300 = .ok (.getfield 10, 3) := by decide +kernel
theorem dX10_lay_303 : decode cX10_lay 303 = .ok (.getfield 55, 3) := by decide +kernel
theorem dX10_lay_306 : decode cX10_lay 306 = .ok (.iload 7, 2) := by decide +kernel
theorem dX10_lay_308 : decode cX10_lay 308 = .ok (.invokevirtual 116, 3) := by decide +kernel
theorem dX10_lay_311 : decode cX10_lay 311 = .ok (.invokevirtual 112, 3) := by decide +kernel
theorem dX10_lay_314 : decode cX10_lay 314 = .ok (.aload_n 0, 1) := by decide +kernel
theorem dX10_lay_315 : decode cX10_lay 315 = .ok (.getfield 10, 3) := by decide +kernel
theorem dX10_lay_318 : decode cX10_lay 318 = .ok (.getfield 71, 3) := by decide +kernel
theorem dX10_lay_321 : decode cX10_lay 321 = .ok (.iload 10, 2) := by decide +kernel
theorem dX10_lay_323 : decode cX10_lay 323 = .ok (.bipush 7, 2) := by decide +kernel
theorem dX10_lay_325 : decode cX10_lay 325 = .ok (.iconst (-1), 1) := by decide +kernel
theorem dX10_lay_326 : decode cX10_lay 326 = .ok (.invokevirtual 112, 3) := by decide +kernel
theorem dX10_lay_329 : decode cX10_lay 329 = .ok (.iload 10, 2) := by decide +kernel
theorem dX10_lay_331 : decode cX10_lay 331 = .ok (.ireturn, 1) := by decide +kernel
theorem dX10_mat_0 : decode cX10_mat 0 = .ok (.aload_n 0, 1) := by decide +kernel
theorem dX10_mat_1 : decode cX10_mat 1 = .ok (.getfield 10, 3) := by decide +kernel
theorem dX10_mat_4 : decode cX10_mat 4 = .ok (.getfield 71, 3) := by decide +kernel
theorem dX10_mat_7 : decode cX10_mat 7 = .ok (.iload_n 1, 1) := by decide +kernel
theorem dX10_mat_8 : decode cX10_mat 8 = .ok (.iload_n 2, 1) := by decide +kernel
theorem dX10_mat_9 : decode cX10_mat 9 = .ok (.invokevirtual 119, 3) := by decide +kernel
theorem dX10_mat_12 : decode cX10_mat 12 = .ok (.ireturn, 1) := by decide +kernel
theorem dX10_recall_0 : decode cX10_recall 0 = .ok (.aload_n 0, 1) := by decide +kernel
theorem dX10_recall_1 : decode cX10_recall 1 = .ok (.getfield 10, 3) := by decide +kernel
theorem dX10_recall_4 : decode cX10_recall 4 = .ok (.getfield 55, 3) := by decide +kernel
theorem dX10_recall_7 : decode cX10_recall 7 = .ok (.iload_n 1, 1) := by decide +kernel
theorem dX10_recall_8 : decode cX10_recall 8 = .ok (.invokevirtual 122, 3) := by decide +kernel
theorem dX10_recall_11 : decode cX10_recall 11 = .ok (.ifCond .eq 17, 3) := by decide +kernel
theorem dX10_recall_14 : decode cX10_recall 14 = .ok (.aload_n 0, 1) := by decide +kernel
theorem dX10_recall_15 : decode cX10_recall 15 = .ok (.getfield 10, 3) := by decide +kernel
theorem dX10_recall_18 : decode cX10_recall 18 = .ok (.getfield 71, 3) := by decide +kernel
theorem dX10_recall_21 : decode cX10_recall 21 = .ok (.iload_n 1, 1) := by decide +kernel
theorem dX10_recall_22 : decode cX10_recall 22 = .ok (.invokevirtual 123, 3) := by decide +kernel
theorem dX10_recall_25 : decode cX10_recall 25 = .ok (.goto 4, 3) := by decide +kernel
theorem dX10_recall_28 : decode cX10_recall 28 = .ok (.iconst (-1), 1) := by decide +kernel
theorem dX10_recall_29 : decode cX10_recall 29 = .ok (.ireturn, 1) := by decide +kernel
theorem dX10_plate_0 : decode cX10_plate 0 = .ok (.aload_n 0, 1) := by decide +kernel
theorem dX10_plate_1 : decode cX10_plate 1 = .ok (.getfield 10, 3) := by decide +kernel
theorem dX10_plate_4 : decode cX10_plate 4 = .ok (.getfield 126, 3) := by decide +kernel
theorem dX10_plate_7 : decode cX10_plate 7 = .ok (.iload_n 1, 1) := by decide +kernel
theorem dX10_plate_8 : decode cX10_plate 8 = .ok (.invokevirtual 130, 3) := by decide +kernel
theorem dX10_plate_11 : decode cX10_plate 11 = .ok (.ireturn, 1) := by decide +kernel
theorem dX10_time_0 : decode cX10_time 0 = .ok (.aload_n 0, 1) := by decide +kernel
theorem dX10_time_1 : decode cX10_time 1 = .ok (.iload_n 1, 1) := by decide +kernel
theorem dX10_time_2 : decode cX10_time 2 = .ok (.iload_n 2, 1) := by decide +kernel
theorem dX10_time_3 : decode cX10_time 3 = .ok (.invokevirtual 133, 3) := by decide +kernel
theorem dX10_time_6 : decode cX10_time 6 = .ok (.ireturn, 1) := by decide +kernel
theorem dX10_fastest_0 : decode cX10_fastest 0 = .ok (.iconst (-1), 1) := by decide +kernel
theorem dX10_fastest_1 : decode cX10_fastest 1 = .ok (.istore_n 2, 1) := by decide +kernel
theorem dX10_fastest_2 : decode cX10_fastest 2 = .ok (.sipush 401, 3) := by decide +kernel
theorem dX10_fastest_5 : decode cX10_fastest 5 = .ok (.istore_n 3, 1) := by decide +kernel
theorem dX10_fastest_6 : decode cX10_fastest 6 = .ok (.iconst 0, 1) := by decide +kernel
theorem dX10_fastest_7 : decode cX10_fastest 7 = .ok (.istore 4, 2) := by decide +kernel
theorem dX10_fastest_9 : decode cX10_fastest 9 = .ok (.iload 4, 2) := by decide +kernel
theorem dX10_fastest_11 : decode cX10_fastest 11 = .ok (.iconst 4, 1) := by decide +kernel
theorem dX10_fastest_12 : decode cX10_fastest 12 = .ok (.if_icmp .ge 36, 3) := by decide +kernel
theorem dX10_fastest_15 : decode cX10_fastest 15 = .ok (.aload_n 0, 1) := by decide +kernel
theorem dX10_fastest_16 : decode cX10_fastest 16 = .ok (.iload_n 1, 1) := by decide +kernel
theorem dX10_fastest_17 : decode cX10_fastest 17 = .ok (.iload 4, 2) := by decide +kernel
theorem dX10_fastest_19 : decode cX10_fastest 19 = .ok (.invokevirtual 133, 3) := by decide +kernel
theorem dX10_fastest_22 : decode cX10_fastest 22 = .ok (.istore 5, 2) := by decide +kernel
theorem dX10_fastest_24 : decode cX10_fastest 24 = .ok (.iload 5, 2) := by decide +kernel
theorem dX10_fastest_26 : decode cX10_fastest 26 = .ok (.iconst (-1), 1) := by decide +kernel
theorem dX10_fastest_27 : decode cX10_fastest 27 = .ok (.if_icmp .eq 15, 3) := by decide +kernel
theorem dX10_fastest_30 : decode cX10_fastest 30 = .ok (.iload 5, 2) := by decide +kernel
theorem dX10_fastest_32 : decode cX10_fastest 32 = .ok (.iload_n 3, 1) := by decide +kernel
theorem dX10_fastest_33 : decode cX10_fastest 33 = .ok (.if_icmp .ge 9, 3) := by decide +kernel
theorem dX10_fastest_36 : decode cX10_fastest 36 = .ok (.iload 4, 2) := by decide +kernel
theorem dX10_fastest_38 : decode cX10_fastest 38 = .ok (.istore_n 2, 1) := by decide +kernel
theorem dX10_fastest_39 : decode cX10_fastest 39 = .ok (.iload 5, 2) := by decide +kernel
theorem dX10_fastest_41 : decode cX10_fastest 41 = .ok (.istore_n 3, 1) := by decide +kernel
theorem dX10_fastest_42 : decode cX10_fastest 42 = .ok (.iinc 4 1, 3) := by decide +kernel
theorem dX10_fastest_45 : decode cX10_fastest 45 = .ok (.goto (-36), 3) := by decide +kernel
theorem dX10_fastest_48 : decode cX10_fastest 48 = .ok (.iload_n 2, 1) := by decide +kernel
theorem dX10_fastest_49 : decode cX10_fastest 49 = .ok (.ireturn, 1) := by decide +kernel
theorem dX10_press_0 : decode cX10_press 0 = .ok (.aload_n 0, 1) := by decide +kernel
theorem dX10_press_1 : decode cX10_press 1 = .ok (.iload_n 1, 1) := by decide +kernel
theorem dX10_press_2 : decode cX10_press 2 = .ok (.iload_n 2, 1) := by decide +kernel
theorem dX10_press_3 : decode cX10_press 3 = .ok (.invokevirtual 133, 3) := by decide +kernel
theorem dX10_press_6 : decode cX10_press 6 = .ok (.istore_n 3, 1) := by decide +kernel
theorem dX10_press_7 : decode cX10_press 7 = .ok (.iload_n 3, 1) := by decide +kernel
theorem dX10_press_8 : decode cX10_press 8 = .ok (.iconst (-1), 1) := by decide +kernel
theorem dX10_press_9 : decode cX10_press 9 = .ok (.if_icmp .eq 17, 3) := by decide +kernel
theorem dX10_press_12 : decode cX10_press 12 = .ok (.aload_n 0, 1) := by decide +kernel
theorem dX10_press_13 : decode cX10_press 13 = .ok (.getfield 10, 3) := by decide +kernel
theorem dX10_press_16 : decode cX10_press 16 = .ok (.getfield 71, 3) := by decide +kernel
theorem dX10_press_19 : decode cX10_press 19 = .ok (.iload_n 1, 1) := by decide +kernel
theorem dX10_press_20 : decode cX10_press 20 = .ok (.invokevirtual 136, 3) := by decide +kernel
theorem dX10_press_23 : decode cX10_press 23 = .ok (.ifCond .eq 5, 3) := by decide +kernel
theorem dX10_press_26 : decode cX10_press 26 = .ok (.iconst 0, 1) := by decide +kernel
theorem dX10_press_27 : decode cX10_press 27 = .ok (.ireturn, 1) := by decide +kernel
theorem dX10_press_28 : decode cX10_press 28 = .ok (.aload_n 0, 1) := by decide +kernel
theorem dX10_press_29 : decode cX10_press 29 = .ok (.getfield 10, 3) := by decide +kernel
theorem dX10_press_32 : decode cX10_press 32 = .ok (.getfield 71, 3) := by decide +kernel
theorem dX10_press_35 : decode cX10_press 35 = .ok (.iload_n 1, 1) := by decide +kernel
theorem dX10_press_36 : decode cX10_press 36 = .ok (.bipush 7, 2) := by decide +kernel
theorem dX10_press_38 : decode cX10_press 38 = .ok (.iload_n 3, 1) := by decide +kernel
theorem dX10_press_39 : decode cX10_press 39 = .ok (.invokevirtual 112, 3) := by decide +kernel
theorem dX10_press_42 : decode cX10_press 42 = .ok (.iconst 1, 1) := by decide +kernel
theorem dX10_press_43 : decode cX10_press 43 = .ok (.ireturn, 1) := by decide +kernel
theorem dX10_shell_0 : decode cX10_shell 0 = .ok (.aload_n 0, 1) := by decide +kernel
theorem dX10_shell_1 : decode cX10_shell 1 = .ok (.getfield 10, 3) := by decide +kernel
theorem dX10_shell_4 : decode cX10_shell 4 = .ok (.getfield 71, 3) := by decide +kernel
theorem dX10_shell_7 : decode cX10_shell 7 = .ok (.iload_n 1, 1) := by decide +kernel
theorem dX10_shell_8 : decode cX10_shell 8 = .ok (.invokevirtual 139, 3) := by decide +kernel
theorem dX10_shell_11 : decode cX10_shell 11 = .ok (.ifCond .eq 28, 3) := by decide +kernel
theorem dX10_shell_14 : decode cX10_shell 14 = .ok (.aload_n 0, 1) := by decide +kernel
theorem dX10_shell_15 : decode cX10_shell 15 = .ok (.getfield 10, 3) := by decide +kernel
theorem dX10_shell_18 : decode cX10_shell 18 = .ok (.getfield 126, 3) := by decide +kernel
theorem dX10_shell_21 : decode cX10_shell 21 = .ok (.iload_n 2, 1) := by decide +kernel
theorem dX10_shell_22 : decode cX10_shell 22 = .ok (.invokevirtual 140, 3) := by decide +kernel
theorem dX10_shell_25 : decode cX10_shell 25 = .ok (.ifCond .eq 14, 3) := by decide +kernel
theorem dX10_shell_28 : decode cX10_shell 28 = .ok (.iload_n 3, 1) := by decide +kernel
theorem dX10_shell_29 : decode cX10_shell 29 = .ok (.ifCond .lt 10, 3) := by decide +kernel
theorem dX10_shell_32 : decode cX10_shell 32 = .ok (.iload_n 3, 1) := by decide +kernel
theorem dX10_shell_33 : decode cX10_shell 33 = .ok (.sipush 400, 3) := by decide +kernel
theorem dX10_shell_36 : decode cX10_shell 36 = .ok (.if_icmp .le 5, 3) := by decide +kernel
theorem dX10_shell_39 : decode cX10_shell 39 = .ok (.iconst (-1), 1) := by decide +kernel
theorem dX10_shell_40 : decode cX10_shell 40 = .ok (.ireturn, 1) := by decide +kernel
theorem dX10_shell_41 : decode cX10_shell 41 = .ok (.aload_n 0, 1) := by decide +kernel
theorem dX10_shell_42 : decode cX10_shell 42 = .ok (.getfield 23, 3) := by decide +kernel
theorem dX10_shell_45 : decode cX10_shell 45 = .ok (.aload_n 0, 1) := by decide +kernel
theorem dX10_shell_46 : decode cX10_shell 46 = .ok (.getfield 10, 3) := by decide +kernel
theorem dX10_shell_49 : decode cX10_shell 49 = .ok (.getfield 126, 3) := by decide +kernel
theorem dX10_shell_52 : decode cX10_shell 52 = .ok (.iload_n 2, 1) := by decide +kernel
theorem dX10_shell_53 : decode cX10_shell 53 = .ok (.invokevirtual 141, 3) := by decide +kernel
theorem dX10_shell_56 : decode cX10_shell 56 = .ok (.invokevirtual 144, 3) := by decide +kernel
theorem dX10_shell_59 : decode cX10_shell 59 = .ok (.iconst 0, 1) := by decide +kernel
theorem dX10_shell_60 : decode cX10_shell 60 = .ok (.istore 6, 2) := by decide +kernel
theorem dX10_shell_62 : decode cX10_shell 62 = .ok (.iload 6, 2) := by decide +kernel
theorem dX10_shell_64 : decode cX10_shell 64 = .ok (.iload_n 3, 1) := by decide +kernel
theorem dX10_shell_65 : decode cX10_shell 65 = .ok (.if_icmp .ge 16, 3) := by decide +kernel
theorem dX10_shell_68 : decode cX10_shell 68 = .ok (.aload_n 0, 1) := by decide +kernel
theorem dX10_shell_69 : decode cX10_shell 69 = .ok (.getfield 23, 3) := by decide +kernel
theorem dX10_shell_72 : decode cX10_shell 72 = .ok (.invokevirtual 148, 3) := by decide +kernel
theorem dX10_shell_75 : decode cX10_shell 75 = .ok (.iinc 6 1, 3) := by decide +kernel
theorem dX10_shell_78 : decode cX10_shell 78 = .ok (.goto (-16), 3) := by decide +kernel
theorem dX10_shell_81 : decode cX10_shell 81 = .ok (.iload 5, 2) := by decide +kernel
theorem dX10_shell_83 : decode cX10_shell 83 = .ok (.tableswitch 67 0 2 #[25, 35, 45], 25) := by decide +kernel
theorem dX10_shell_108 : decode cX10_shell 108 = .ok (.aload_n 0, 1) := by decide +kernel
theorem dX10_shell_109 : decode cX10_shell 109 = .ok (.getfield 23, 3) := by decide +kernel
theorem dX10_shell_112 : decode cX10_shell 112 = .ok (.iload 4, 2) := by decide +kernel
theorem dX10_shell_114 : decode cX10_shell 114 = .ok (.invokevirtual 151, 3) := by decide +kernel
theorem dX10_shell_117 : decode cX10_shell 117 = .ok (.ireturn, 1) := by decide +kernel
theorem dX10_shell_118 : decode cX10_shell 118 = .ok (.aload_n 0, 1) := by decide +kernel
theorem dX10_shell_119 : decode cX10_shell 119 = .ok (.getfield 23, 3) := by decide +kernel
theorem dX10_shell_122 : decode cX10_shell 122 = .ok (.iload 4, 2) := by decide +kernel
theorem dX10_shell_124 : decode cX10_shell 124 = .ok (.invokevirtual 152, 3) := by decide +kernel
theorem dX10_shell_127 : decode cX10_shell 127 = .ok (.ireturn, 1) := by decide +kernel
theorem dX10_shell_128 : decode cX10_shell 128 = .ok (.aload_n 0, 1) := by decide +kernel
theorem dX10_shell_129 : decode cX10_shell 129 = .ok (.getfield 23, 3) := by decide +kernel
theorem dX10_shell_132 : decode cX10_shell 132 = .ok (.iload 4, 2) := by decide +kernel
theorem dX10_shell_134 : decode cX10_shell 134 = .ok (.aload_n 0, 1) := by decide +kernel
theorem dX10_shell_135 : decode cX10_shell 135 = .ok (.getfield 10, 3) := by decide +kernel
theorem dX10_shell_138 : decode cX10_shell 138 = .ok (.getfield 71, 3) := by decide +kernel
theorem dX10_shell_141 : decode cX10_shell 141 = .ok (.iload_n 1, 1) := by decide +kernel
theorem dX10_shell_142 : decode cX10_shell 142 = .ok (.iconst 2, 1) := by decide +kernel
theorem dX10_shell_143 : decode cX10_shell 143 = .ok (.invokevirtual 119, 3) := by decide +kernel
theorem dX10_shell_146 : decode cX10_shell 146 = .ok (.invokevirtual 155, 3) := by decide +kernel
theorem dX10_shell_149 : decode cX10_shell 149 = .ok (.ireturn, 1) := by decide +kernel
theorem dX10_shell_150 : decode cX10_shell 150 = .ok (.iconst (-1), 1) := by decide +kernel
theorem dX10_shell_151 : decode cX10_shell 151 = .ok (.ireturn, 1) := by decide +kernel
theorem dX10_link_0 : decode cX10_link 0 = .ok (.aload_n 0, 1) := by decide +kernel
theorem dX10_link_1 : decode cX10_link 1 = .ok (.getfield 10, 3) := by decide +kernel
theorem dX10_link_4 : decode cX10_link 4 = .ok (.getfield 158, 3) := by decide +kernel
theorem dX10_link_7 : decode cX10_link 7 = .ok (.iload_n 1, 1) := by decide +kernel
theorem dX10_link_8 : decode cX10_link 8 = .ok (.iload_n 2, 1) := by decide +kernel
theorem dX10_link_9 : decode cX10_link 9 = .ok (.iload_n 3, 1) := by decide +kernel
theorem dX10_link_10 : decode cX10_link 10 = .ok (.invokevirtual 162, 3) := by decide +kernel
theorem dX10_link_13 : decode cX10_link 13 = .ok (.ireturn, 1) := by decide +kernel
theorem dX10_state_0 : decode cX10_state 0 = .ok (.aload_n 0, 1) := by decide +kernel
theorem dX10_state_1 : decode cX10_state 1 = .ok (.getfield 10, 3) := by decide +kernel
theorem dX10_state_4 : decode cX10_state 4 = .ok (.getfield 158, 3) := by decide +kernel
theorem dX10_state_7 : decode cX10_state 7 = .ok (.iload_n 1, 1) := by decide +kernel
theorem dX10_state_8 : decode cX10_state 8 = .ok (.iload_n 2, 1) := by decide +kernel
theorem dX10_state_9 : decode cX10_state 9 = .ok (.iload_n 3, 1) := by decide +kernel
theorem dX10_state_10 : decode cX10_state 10 = .ok (.invokevirtual 168, 3) := by decide +kernel
theorem dX10_state_13 : decode cX10_state 13 = .ok (.ireturn, 1) := by decide +kernel
theorem dX10_badRow_0 : decode cX10_badRow 0 = .ok (.aload_n 0, 1) := by decide +kernel
theorem dX10_badRow_1 : decode cX10_badRow 1 = .ok (.getfield 30, 3) := by decide +kernel
theorem dX10_badRow_4 : decode cX10_badRow 4 = .ok (.aload_n 0, 1) := by decide +kernel
theorem dX10_badRow_5 : decode cX10_badRow 5 = .ok (.getfield 10, 3) := by decide +kernel
theorem dX10_badRow_8 : decode cX10_badRow 8 = .ok (.getfield 158, 3) := by decide +kernel
theorem dX10_badRow_11 : decode cX10_badRow 11 = .ok (.invokevirtual 172, 3) := by decide +kernel
theorem dX10_badRow_14 : decode cX10_badRow 14 = .ok (.ireturn, 1) := by decide +kernel
theorem dX10_bad_0 : decode cX10_bad 0 = .ok (.aload_n 0, 1) := by decide +kernel
theorem dX10_bad_1 : decode cX10_bad 1 = .ok (.getfield 30, 3) := by decide +kernel
theorem dX10_bad_4 : decode cX10_bad 4 = .ok (.aload_n 0, 1) := by decide +kernel
theorem dX10_bad_5 : decode cX10_bad 5 = .ok (.getfield 10, 3) := by decide +kernel
theorem dX10_bad_8 : decode cX10_bad 8 = .ok (.getfield 158, 3) := by decide +kernel
theorem dX10_bad_11 : decode cX10_bad 11 = .ok (.invokevirtual 172, 3) := by decide +kernel
theorem dX10_bad_14 : decode cX10_bad 14 = .ok (.istore_n 2, 1) := by decide +kernel
theorem dX10_bad_15 : decode cX10_bad 15 = .ok (.iload_n 1, 1) := by decide +kernel
theorem dX10_bad_16 : decode cX10_bad 16 = .ok (.ifCond .lt 19, 3) := by decide +kernel
theorem dX10_bad_19 : decode cX10_bad 19 = .ok (.iload_n 1, 1) := by decide +kernel
theorem dX10_bad_20 : decode cX10_bad 20 = .ok (.iload_n 2, 1) := by decide +kernel
theorem dX10_bad_21 : decode cX10_bad 21 = .ok (.if_icmp .ge 14, 3) := by decide +kernel
theorem dX10_bad_24 : decode cX10_bad 24 = .ok (.aload_n 0, 1) := by decide +kernel
theorem dX10_bad_25 : decode cX10_bad 25 = .ok (.getfield 30, 3) := by decide +kernel
theorem dX10_bad_28 : decode cX10_bad 28 = .ok (.iload_n 1, 1) := by decide +kernel
theorem dX10_bad_29 : decode cX10_bad 29 = .ok (.invokevirtual 176, 3) := by decide +kernel
theorem dX10_bad_32 : decode cX10_bad 32 = .ok (.goto 4, 3) := by decide +kernel
theorem dX10_bad_35 : decode cX10_bad 35 = .ok (.iconst (-1), 1) := by decide +kernel
theorem dX10_bad_36 : decode cX10_bad 36 = .ok (.ireturn, 1) := by decide +kernel
theorem dX10_sheet_0 : decode cX10_sheet 0 = .ok (.aload_n 0, 1) := by decide +kernel
theorem dX10_sheet_1 : decode cX10_sheet 1 = .ok (.getfield 10, 3) := by decide +kernel
theorem dX10_sheet_4 : decode cX10_sheet 4 = .ok (.getfield 179, 3) := by decide +kernel
theorem dX10_sheet_7 : decode cX10_sheet 7 = .ok (.iload_n 1, 1) := by decide +kernel
theorem dX10_sheet_8 : decode cX10_sheet 8 = .ok (.iload_n 2, 1) := by decide +kernel
theorem dX10_sheet_9 : decode cX10_sheet 9 = .ok (.iload_n 3, 1) := by decide +kernel
theorem dX10_sheet_10 : decode cX10_sheet 10 = .ok (.invokevirtual 183, 3) := by decide +kernel
theorem dX10_sheet_13 : decode cX10_sheet 13 = .ok (.istore 4, 2) := by decide +kernel
theorem dX10_sheet_15 : decode cX10_sheet 15 = .ok (.iload 4, 2) := by decide +kernel
theorem dX10_sheet_17 : decode cX10_sheet 17 = .ok (.iconst (-1), 1) := by decide +kernel
theorem dX10_sheet_18 : decode cX10_sheet 18 = .ok (.if_icmp .eq 10, 3) := by decide +kernel
theorem dX10_sheet_21 : decode cX10_sheet 21 = .ok (.aload_n 0, 1) := by decide +kernel
theorem dX10_sheet_22 : decode cX10_sheet 22 = .ok (.getfield 37, 3) := by decide +kernel
theorem dX10_sheet_25 : decode cX10_sheet 25 = .ok (.invokevirtual 68, 3) := by decide +kernel
theorem dX10_sheet_28 : decode cX10_sheet 28 = .ok (.iload 4, 2) := by decide +kernel
theorem dX10_sheet_30 : decode cX10_sheet 30 = .ok (.ireturn, 1) := by decide +kernel
theorem dX10_best_0 : decode cX10_best 0 = .ok (.aload_n 0, 1) := by decide +kernel
theorem dX10_best_1 : decode cX10_best 1 = .ok (.getfield 37, 3) := by decide +kernel
theorem dX10_best_4 : decode cX10_best 4 = .ok (.aload_n 0, 1) := by decide +kernel
theorem dX10_best_5 : decode cX10_best 5 = .ok (.getfield 10, 3) := by decide +kernel
theorem dX10_best_8 : decode cX10_best 8 = .ok (.getfield 179, 3) := by decide +kernel
theorem dX10_best_11 : decode cX10_best 11 = .ok (.aload_n 0, 1) := by decide +kernel
theorem dX10_best_12 : decode cX10_best 12 = .ok (.getfield 10, 3) := by decide +kernel
theorem dX10_best_15 : decode cX10_best 15 = .ok (.getfield 188, 3) := by decide +kernel
theorem dX10_best_18 : decode cX10_best 18 = .ok (.invokevirtual 191, 3) := by decide +kernel
theorem dX10_best_21 : decode cX10_best 21 = .ok (.aload_n 0, 1) := by decide +kernel
theorem dX10_best_22 : decode cX10_best 22 = .ok (.getfield 37, 3) := by decide +kernel
theorem dX10_best_25 : decode cX10_best 25 = .ok (.iload_n 1, 1) := by decide +kernel
theorem dX10_best_26 : decode cX10_best 26 = .ok (.iload_n 2, 1) := by decide +kernel
theorem dX10_best_27 : decode cX10_best 27 = .ok (.invokevirtual 195, 3) := by decide +kernel
theorem dX10_best_30 : decode cX10_best 30 = .ok (.ireturn, 1) := by decide +kernel
theorem dX10_cuts_0 : decode cX10_cuts 0 = .ok (.aload_n 0, 1) := by decide +kernel
theorem dX10_cuts_1 : decode cX10_cuts 1 = .ok (.getfield 37, 3) := by decide +kernel
theorem dX10_cuts_4 : decode cX10_cuts 4 = .ok (.aload_n 0, 1) := by decide +kernel
theorem dX10_cuts_5 : decode cX10_cuts 5 = .ok (.getfield 10, 3) := by decide +kernel
theorem dX10_cuts_8 : decode cX10_cuts 8 = .ok (.getfield 179, 3) := by decide +kernel
theorem dX10_cuts_11 : decode cX10_cuts 11 = .ok (.aload_n 0, 1) := by decide +kernel
theorem dX10_cuts_12 : decode cX10_cuts 12 = .ok (.getfield 10, 3) := by decide +kernel
theorem dX10_cuts_15 : decode cX10_cuts 15 = .ok (.getfield 188, 3) := by decide +kernel
theorem dX10_cuts_18 : decode cX10_cuts 18 = .ok (.invokevirtual 191, 3) := by decide +kernel
theorem dX10_cuts_21 : decode cX10_cuts 21 = .ok (.iload_n 3, 1) := by decide +kernel
theorem dX10_cuts_22 : decode cX10_cuts 22 = .ok (.iconst (-1), 1) := by decide +kernel
theorem dX10_cuts_23 : decode cX10_cuts 23 = .ok (.if_icmp .ne 13, 3) := by decide +kernel
theorem dX10_cuts_26 : decode cX10_cuts 26 = .ok (.aload_n 0, 1) := by decide +kernel
theorem dX10_cuts_27 : decode cX10_cuts 27 = .ok (.getfield 37, 3) := by decide +kernel
theorem dX10_cuts_30 : decode cX10_cuts 30 = .ok (.iload_n 1, 1) := by decide +kernel
theorem dX10_cuts_31 : decode cX10_cuts 31 = .ok (.iload_n 2, 1) := by decide +kernel
theorem dX10_cuts_32 : decode cX10_cuts 32 = .ok (.invokevirtual 198, 3) := by decide +kernel
theorem dX10_cuts_35 : decode cX10_cuts 35 = .ok (.ireturn, 1) := by decide +kernel
theorem dX10_cuts_36 : decode cX10_cuts 36 = .ok (.aload_n 0, 1) := by decide +kernel
theorem dX10_cuts_37 : decode cX10_cuts 37 = .ok (.getfield 10, 3) := by decide +kernel
theorem dX10_cuts_40 : decode cX10_cuts 40 = .ok (.getfield 179, 3) := by decide +kernel
theorem dX10_cuts_43 : decode cX10_cuts 43 = .ok (.iload_n 3, 1) := by decide +kernel
theorem dX10_cuts_44 : decode cX10_cuts 44 = .ok (.invokevirtual 201, 3) := by decide +kernel
theorem dX10_cuts_47 : decode cX10_cuts 47 = .ok (.ifCond .eq 16, 3) := by decide +kernel
theorem dX10_cuts_50 : decode cX10_cuts 50 = .ok (.aload_n 0, 1) := by decide +kernel
theorem dX10_cuts_51 : decode cX10_cuts 51 = .ok (.getfield 37, 3) := by decide +kernel
theorem dX10_cuts_54 : decode cX10_cuts 54 = .ok (.iload_n 1, 1) := by decide +kernel
theorem dX10_cuts_55 : decode cX10_cuts 55 = .ok (.iload_n 2, 1) := by decide +kernel
theorem dX10_cuts_56 : decode cX10_cuts 56 = .ok (.iload_n 3, 1) := by decide +kernel
theorem dX10_cuts_57 : decode cX10_cuts 57 = .ok (.invokevirtual 202, 3) := by decide +kernel
theorem dX10_cuts_60 : decode cX10_cuts 60 = .ok (.goto 4, 3) := by decide +kernel
theorem dX10_cuts_63 : decode cX10_cuts 63 = .ok (.iconst (-1), 1) := by decide +kernel
theorem dX10_cuts_64 : decode cX10_cuts 64 = .ok (.ireturn, 1) := by decide +kernel
theorem dX10_count_0 : decode cX10_count 0 = .ok (.iload_n 1, 1) := by decide +kernel
theorem dX10_count_1 : decode cX10_count 1 = .ok (.bipush 10, 2) := by decide +kernel
theorem dX10_count_3 : decode cX10_count 3 = .ok (.if_icmp .lt 24, 3) := by decide +kernel
theorem dX10_count_6 : decode cX10_count 6 = .ok (.iload_n 1, 1) := by decide +kernel
theorem dX10_count_7 : decode cX10_count 7 = .ok (.bipush 16, 2) := by decide +kernel
theorem dX10_count_9 : decode cX10_count 9 = .ok (.if_icmp .ge 18, 3) := by decide +kernel
theorem dX10_count_12 : decode cX10_count 12 = .ok (.aload_n 0, 1) := by decide +kernel
theorem dX10_count_13 : decode cX10_count 13 = .ok (.getfield 10, 3) := by decide +kernel
theorem dX10_count_16 : decode cX10_count 16 = .ok (.getfield 41, 3) := by decide +kernel
theorem dX10_count_19 : decode cX10_count 19 = .ok (.iload_n 1, 1) := by decide +kernel
theorem dX10_count_20 : decode cX10_count 20 = .ok (.bipush 10, 2) := by decide +kernel
theorem dX10_count_22 : decode cX10_count 22 = .ok (.isub, 1) := by decide +kernel
theorem dX10_count_23 : decode cX10_count 23 = .ok (.invokevirtual 205, 3) := by decide +kernel
theorem dX10_count_26 : decode cX10_count 26 = .ok (.ireturn, 1) := by decide +kernel
theorem dX10_count_27 : decode cX10_count 27 = .ok (.iload_n 1, 1) := by decide +kernel
theorem dX10_count_28 : decode cX10_count 28 = .ok (.bipush 20, 2) := by decide +kernel
theorem dX10_count_30 : decode cX10_count 30 = .ok (.if_icmp .lt 24, 3) := by decide +kernel
theorem dX10_count_33 : decode cX10_count 33 = .ok (.iload_n 1, 1) := by decide +kernel
theorem dX10_count_34 : decode cX10_count 34 = .ok (.bipush 28, 2) := by decide +kernel
theorem dX10_count_36 : decode cX10_count 36 = .ok (.if_icmp .ge 18, 3) := by decide +kernel
theorem dX10_count_39 : decode cX10_count 39 = .ok (.aload_n 0, 1) := by decide +kernel
theorem dX10_count_40 : decode cX10_count 40 = .ok (.getfield 10, 3) := by decide +kernel
theorem dX10_count_43 : decode cX10_count 43 = .ok (.getfield 55, 3) := by decide +kernel
theorem dX10_count_46 : decode cX10_count 46 = .ok (.iload_n 1, 1) := by decide +kernel
theorem dX10_count_47 : decode cX10_count 47 = .ok (.bipush 20, 2) := by decide +kernel
theorem dX10_count_49 : decode cX10_count 49 = .ok (.isub, 1) := by decide +kernel
theorem dX10_count_50 : decode cX10_count 50 = .ok (.invokevirtual 208, 3) := by decide +kernel
theorem dX10_count_53 : decode cX10_count 53 = .ok (.ireturn, 1) := by decide +kernel
theorem dX10_count_54 : decode cX10_count 54 = .ok (.iload_n 1, 1) := by decide +kernel
theorem dX10_count_55 : decode cX10_count 55 = .ok (.tableswitch 133 0 7 #[45, 56, 67, 78, 89, 100, 111, 122], 45) := by decide +kernel
theorem dX10_count_100 : decode cX10_count 100 = .ok (.aload_n 0, 1) := by decide +kernel
theorem dX10_count_101 : decode cX10_count 101 = .ok (.getfield 10, 3) := by decide +kernel
theorem dX10_count_104 : decode cX10_count 104 = .ok (.getfield 41, 3) := by decide +kernel
theorem dX10_count_107 : decode cX10_count 107 = .ok (.getfield 209, 3) := by decide +kernel
theorem dX10_count_110 : decode cX10_count 110 = .ok (.ireturn, 1) := by decide +kernel
theorem dX10_count_111 : decode cX10_count 111 = .ok (.aload_n 0, 1) := by decide +kernel
theorem dX10_count_112 : decode cX10_count 112 = .ok (.getfield 10, 3) := by decide +kernel
theorem dX10_count_115 : decode cX10_count 115 = .ok (.getfield 55, 3) := by decide +kernel
theorem dX10_count_118 : decode cX10_count 118 = .ok (.getfield 212, 3) := by decide +kernel
theorem dX10_count_121 : decode cX10_count 121 = .ok (.ireturn, 1) := by decide +kernel
theorem dX10_count_122 : decode cX10_count 122 = .ok (.aload_n 0, 1) := by decide +kernel
theorem dX10_count_123 : decode cX10_count 123 = .ok (.getfield 10, 3) := by decide +kernel
theorem dX10_count_126 : decode cX10_count 126 = .ok (.getfield 71, 3) := by decide +kernel
theorem dX10_count_129 : decode cX10_count 129 = .ok (.getfield 213, 3) := by decide +kernel
theorem dX10_count_132 : decode cX10_count 132 = .ok (.ireturn, 1) := by decide +kernel
theorem dX10_count_133 : decode cX10_count 133 = .ok (.aload_n 0, 1) := by decide +kernel
theorem dX10_count_134 : decode cX10_count 134 = .ok (.getfield 10, 3) := by decide +kernel
theorem dX10_count_137 : decode cX10_count 137 = .ok (.getfield 126, 3) := by decide +kernel
theorem dX10_count_140 : decode cX10_count 140 = .ok (.getfield 214, 3) := by decide +kernel
theorem dX10_count_143 : decode cX10_count 143 = .ok (.ireturn, 1) := by decide +kernel
theorem dX10_count_144 : decode cX10_count 144 = .ok (.aload_n 0, 1) := by decide +kernel
theorem dX10_count_145 : decode cX10_count 145 = .ok (.getfield 10, 3) := by decide +kernel
theorem dX10_count_148 : decode cX10_count 148 = .ok (.getfield 179, 3) := by decide +kernel
theorem dX10_count_151 : decode cX10_count 151 = .ok (.getfield 215, 3) := by decide +kernel
theorem dX10_count_154 : decode cX10_count 154 = .ok (.ireturn, 1) := by decide +kernel
theorem dX10_count_155 : decode cX10_count 155 = .ok (.aload_n 0, 1) := by decide +kernel
theorem dX10_count_156 : decode cX10_count 156 = .ok (.getfield 10, 3) := by decide +kernel
theorem dX10_count_159 : decode cX10_count 159 = .ok (.getfield 41, 3) := by decide +kernel
theorem dX10_count_162 : decode cX10_count 162 = .ok (.invokevirtual 216, 3) := by decide +kernel
theorem dX10_count_165 : decode cX10_count 165 = .ok (.ireturn, 1) := by decide +kernel
theorem dX10_count_166 : decode cX10_count 166 = .ok (.aload_n 0, 1) := by decide +kernel
theorem dX10_count_167 : decode cX10_count 167 = .ok (.getfield 10, 3) := by decide +kernel
theorem dX10_count_170 : decode cX10_count 170 = .ok (.getfield 55, 3) := by decide +kernel
theorem dX10_count_173 : decode cX10_count 173 = .ok (.invokevirtual 96, 3) := by decide +kernel
theorem dX10_count_176 : decode cX10_count 176 = .ok (.ireturn, 1) := by decide +kernel
theorem dX10_count_177 : decode cX10_count 177 = .ok (.aload_n 0, 1) := by decide +kernel
theorem dX10_count_178 : decode cX10_count 178 = .ok (.getfield 10, 3) := by decide +kernel
theorem dX10_count_181 : decode cX10_count 181 = .ok (.getfield 71, 3) := by decide +kernel
theorem dX10_count_184 : decode cX10_count 184 = .ok (.invokevirtual 217, 3) := by decide +kernel
theorem dX10_count_187 : decode cX10_count 187 = .ok (.ireturn, 1) := by decide +kernel
theorem dX10_count_188 : decode cX10_count 188 = .ok (.iconst (-1), 1) := by decide +kernel
theorem dX10_count_189 : decode cX10_count 189 = .ok (.ireturn, 1) := by decide +kernel
theorem dX10_image_0 : decode cX10_image 0 = .ok (.iload_n 1, 1) := by decide +kernel
theorem dX10_image_1 : decode cX10_image 1 = .ok (.ifCond .lt 8, 3) := by decide +kernel
theorem dX10_image_4 : decode cX10_image 4 = .ok (.iload_n 1, 1) := by decide +kernel
theorem dX10_image_5 : decode cX10_image 5 = .ok (.iconst 3, 1) := by decide +kernel
theorem dX10_image_6 : decode cX10_image 6 = .ok (.if_icmp .lt 5, 3) := by decide +kernel
theorem dX10_image_9 : decode cX10_image 9 = .ok (.iconst 0, 1) := by decide +kernel
theorem dX10_image_10 : decode cX10_image 10 = .ok (.ireturn, 1) := by decide +kernel
theorem dX10_image_11 : decode cX10_image 11 = .ok (.aload_n 0, 1) := by decide +kernel
theorem dX10_image_12 : decode cX10_image 12 = .ok (.getfield 16, 3) := by decide +kernel
theorem dX10_image_15 : decode cX10_image 15 = .ok (.iload_n 1, 1) := by decide +kernel
theorem dX10_image_16 : decode cX10_image 16 = .ok (.aaload, 1) := by decide +kernel
theorem dX10_image_17 : decode cX10_image 17 = .ok (.astore_n 2, 1) := by decide +kernel
theorem dX10_image_18 : decode cX10_image 18 = .ok (.aload_n 2, 1) := by decide +kernel
theorem dX10_image_19 : decode cX10_image 19 = .ok (.ifnonnull 18, 3) := by decide +kernel
theorem dX10_image_22 : decode cX10_image 22 = .ok (.new 7, 3) := by decide +kernel
theorem dX10_image_25 : decode cX10_image 25 = .ok (.dup, 1) := by decide +kernel
theorem dX10_image_26 : decode cX10_image 26 = .ok (.invokespecial 9, 3) := by decide +kernel
theorem dX10_image_29 : decode cX10_image 29 = .ok (.astore_n 2, 1) := by decide +kernel
theorem dX10_image_30 : decode cX10_image 30 = .ok (.aload_n 0, 1) := by decide +kernel
theorem dX10_image_31 : decode cX10_image 31 = .ok (.getfield 16, 3) := by decide +kernel
theorem dX10_image_34 : decode cX10_image 34 = .ok (.iload_n 1, 1) := by decide +kernel
theorem dX10_image_35 : decode cX10_image 35 = .ok (.aload_n 2, 1) := by decide +kernel
theorem dX10_image_36 : decode cX10_image 36 = .ok (.aastore, 1) := by decide +kernel
theorem dX10_image_37 : decode cX10_image 37 = .ok (.aload_n 2, 1) := by decide +kernel
theorem dX10_image_38 : decode cX10_image 38 = .ok (.aload_n 0, 1) := by decide +kernel
theorem dX10_image_39 : decode cX10_image 39 = .ok (.getfield 10, 3) := by decide +kernel
theorem dX10_image_42 : decode cX10_image 42 = .ok (.invokevirtual 220, 3) := by decide +kernel
theorem dX10_image_45 : decode cX10_image 45 = .ok (.iconst 1, 1) := by decide +kernel
theorem dX10_image_46 : decode cX10_image 46 = .ok (.ireturn, 1) := by decide +kernel
theorem dX10_again_0 : decode cX10_again 0 = .ok (.iload_n 1, 1) := by decide +kernel
theorem dX10_again_1 : decode cX10_again 1 = .ok (.ifCond .lt 8, 3) := by decide +kernel
theorem dX10_again_4 : decode cX10_again 4 = .ok (.iload_n 1, 1) := by decide +kernel
theorem dX10_again_5 : decode cX10_again 5 = .ok (.iconst 3, 1) := by decide +kernel
theorem dX10_again_6 : decode cX10_again 6 = .ok (.if_icmp .lt 5, 3) := by decide +kernel
theorem dX10_again_9 : decode cX10_again 9 = .ok (.iconst 0, 1) := by decide +kernel
theorem dX10_again_10 : decode cX10_again 10 = .ok (.ireturn, 1) := by decide +kernel
theorem dX10_again_11 : decode cX10_again 11 = .ok (.aload_n 0, 1) := by decide +kernel
theorem dX10_again_12 : decode cX10_again 12 = .ok (.getfield 16, 3) := by decide +kernel
theorem dX10_again_15 : decode cX10_again 15 = .ok (.iload_n 1, 1) := by decide +kernel
theorem dX10_again_16 : decode cX10_again 16 = .ok (.aaload, 1) := by decide +kernel
theorem dX10_again_17 : decode cX10_again 17 = .ok (.astore_n 2, 1) := by decide +kernel
theorem dX10_again_18 : decode cX10_again 18 = .ok (.aload_n 2, 1) := by decide +kernel
theorem dX10_again_19 : decode cX10_again 19 = .ok (.ifnonnull 5, 3) := by decide +kernel
theorem dX10_again_22 : decode cX10_again 22 = .ok (.iconst 0, 1) := by decide +kernel
theorem dX10_again_23 : decode cX10_again 23 = .ok (.ireturn, 1) := by decide +kernel
theorem dX10_again_24 : decode cX10_again 24 = .ok (.aload_n 0, 1) := by decide +kernel
theorem dX10_again_25 : decode cX10_again 25 = .ok (.getfield 10, 3) := by decide +kernel
theorem dX10_again_28 : decode cX10_again 28 = .ok (.aload_n 2, 1) := by decide +kernel
theorem dX10_again_29 : decode cX10_again 29 = .ok (.invokevirtual 220, 3) := by decide +kernel
theorem dX10_again_32 : decode cX10_again 32 = .ok (.aload_n 0, 1) := by decide +kernel
theorem dX10_again_33 : decode cX10_again 33 = .ok (.getfield 37, 3) := by decide +kernel
theorem dX10_again_36 : decode cX10_again 36 = .ok (.invokevirtual 68, 3) := by decide +kernel
theorem dX10_again_39 : decode cX10_again 39 = .ok (.iconst 1, 1) := by decide +kernel
theorem dX10_again_40 : decode cX10_again 40 = .ok (.ireturn, 1) := by decide +kernel
theorem dX10_timeOf_0 : decode cX10_timeOf 0 = .ok (.aload_n 0, 1) := by decide +kernel
theorem dX10_timeOf_1 : decode cX10_timeOf 1 = .ok (.getfield 10, 3) := by decide +kernel
theorem dX10_timeOf_4 : decode cX10_timeOf 4 = .ok (.getfield 71, 3) := by decide +kernel
theorem dX10_timeOf_7 : decode cX10_timeOf 7 = .ok (.iload_n 1, 1) := by decide +kernel
theorem dX10_timeOf_8 : decode cX10_timeOf 8 = .ok (.invokevirtual 139, 3) := by decide +kernel
theorem dX10_timeOf_11 : decode cX10_timeOf 11 = .ok (.ifCond .eq 17, 3) := by decide +kernel
theorem dX10_timeOf_14 : decode cX10_timeOf 14 = .ok (.aload_n 0, 1) := by decide +kernel
theorem dX10_timeOf_15 : decode cX10_timeOf 15 = .ok (.getfield 10, 3) := by decide +kernel
theorem dX10_timeOf_18 : decode cX10_timeOf 18 = .ok (.getfield 126, 3) := by decide +kernel
theorem dX10_timeOf_21 : decode cX10_timeOf 21 = .ok (.iload_n 2, 1) := by decide +kernel
theorem dX10_timeOf_22 : decode cX10_timeOf 22 = .ok (.invokevirtual 140, 3) := by decide +kernel
theorem dX10_timeOf_25 : decode cX10_timeOf 25 = .ok (.ifCond .ne 5, 3) := by decide +kernel
theorem dX10_timeOf_28 : decode cX10_timeOf 28 = .ok (.iconst (-1), 1) := by decide +kernel
theorem dX10_timeOf_29 : decode cX10_timeOf 29 = .ok (.ireturn, 1) := by decide +kernel
theorem dX10_timeOf_30 : decode cX10_timeOf 30 = .ok (.aload_n 0, 1) := by decide +kernel
theorem dX10_timeOf_31 : decode cX10_timeOf 31 = .ok (.getfield 10, 3) := by decide +kernel
theorem dX10_timeOf_34 : decode cX10_timeOf 34 = .ok (.getfield 71, 3) := by decide +kernel
theorem dX10_timeOf_37 : decode cX10_timeOf 37 = .ok (.iload_n 1, 1) := by decide +kernel
theorem dX10_timeOf_38 : decode cX10_timeOf 38 = .ok (.iconst 2, 1) := by decide +kernel
theorem dX10_timeOf_39 : decode cX10_timeOf 39 = .ok (.invokevirtual 119, 3) := by decide +kernel
theorem dX10_timeOf_42 : decode cX10_timeOf 42 = .ok (.istore_n 3, 1) := by decide +kernel
theorem dX10_timeOf_43 : decode cX10_timeOf 43 = .ok (.aload_n 0, 1) := by decide +kernel
theorem dX10_timeOf_44 : decode cX10_timeOf 44 = .ok (.getfield 23, 3) := by decide +kernel
theorem dX10_timeOf_47 : decode cX10_timeOf 47 = .ok (.aload_n 0, 1) := by decide +kernel
theorem dX10_timeOf_48 : decode cX10_timeOf 48 = .ok (.getfield 10, 3) := by decide +kernel
theorem dX10_timeOf_51 : decode cX10_timeOf 51 = .ok (.getfield 126, 3) := by decide +kernel
theorem dX10_timeOf_54 : decode cX10_timeOf 54 = .ok (.iload_n 2, 1) := by decide +kernel
theorem dX10_timeOf_55 : decode cX10_timeOf 55 = .ok (.invokevirtual 141, 3) := by decide +kernel
theorem dX10_timeOf_58 : decode cX10_timeOf 58 = .ok (.invokevirtual 144, 3) := by decide +kernel
theorem dX10_timeOf_61 : decode cX10_timeOf 61 = .ok (.iconst 1, 1) := by decide +kernel
theorem dX10_timeOf_62 : decode cX10_timeOf 62 = .ok (.istore 4, 2) := by decide +kernel
theorem dX10_timeOf_64 : decode cX10_timeOf 64 = .ok (.iload 4, 2) := by decide +kernel
theorem dX10_timeOf_66 : decode cX10_timeOf 66 = .ok (.sipush 400, 3) := by decide +kernel
theorem dX10_timeOf_69 : decode cX10_timeOf 69 = .ok (.if_icmp .gt 37, 3) := by decide +kernel
theorem dX10_timeOf_72 : decode cX10_timeOf 72 = .ok (.aload_n 0, 1) := by decide +kernel
theorem dX10_timeOf_73 : decode cX10_timeOf 73 = .ok (.getfield 23, 3) := by decide +kernel
theorem dX10_timeOf_76 : decode cX10_timeOf 76 = .ok (.invokevirtual 148, 3) := by decide +kernel
theorem dX10_timeOf_79 : decode cX10_timeOf 79 = .ok (.aload_n 0, 1) := by decide +kernel
theorem dX10_timeOf_80 : decode cX10_timeOf 80 = .ok (.getfield 23, 3) := by decide +kernel
theorem dX10_timeOf_83 : decode cX10_timeOf 83 = .ok (.aload_n 0, 1) := by decide +kernel
theorem dX10_timeOf_84 : decode cX10_timeOf 84 = .ok (.getfield 10, 3) := by decide +kernel
theorem dX10_timeOf_87 : decode cX10_timeOf 87 = .ok (.getfield 224, 3) := by decide +kernel
theorem dX10_timeOf_90 : decode cX10_timeOf 90 = .ok (.iload_n 3, 1) := by decide +kernel
theorem dX10_timeOf_91 : decode cX10_timeOf 91 = .ok (.invokevirtual 227, 3) := by decide +kernel
theorem dX10_timeOf_94 : decode cX10_timeOf 94 = .ok (.ifCond .eq 6, 3) := by decide +kernel
theorem dX10_timeOf_97 : decode cX10_timeOf 97 = .ok (.iload 4, 2) := by decide +kernel
theorem dX10_timeOf_99 : decode cX10_timeOf 99 = .ok (.ireturn, 1) := by decide +kernel
theorem dX10_timeOf_100 : decode cX10_timeOf 100 = .ok (.iinc 4 1, 3) := by decide +kernel
theorem dX10_timeOf_103 : decode cX10_timeOf 103 = .ok (.goto (-39), 3) := by decide +kernel
theorem dX10_timeOf_106 : decode cX10_timeOf 106 = .ok (.iconst (-1), 1) := by decide +kernel
theorem dX10_timeOf_107 : decode cX10_timeOf 107 = .ok (.ireturn, 1) := by decide +kernel
end
section
theorem dX11_init_0 : decode cX11_init 0 = .ok (.aload_n 0, 1) := by decide +kernel
theorem dX11_init_1 : decode cX11_init 1 = .ok (.invokespecial 1, 3) := by decide +kernel
theorem dX11_init_4 : decode cX11_init 4 = .ok (.aload_n 0, 1) := by decide +kernel
theorem dX11_init_5 : decode cX11_init 5 = .ok (.sipush 1280, 3) := by decide +kernel
theorem dX11_init_8 : decode cX11_init 8 = .ok (.newarray .int, 2) := by decide +kernel
theorem dX11_init_10 : decode cX11_init 10 = .ok (.putfield 7, 3) := by decide +kernel
theorem dX11_init_13 : decode cX11_init 13 = .ok (.aload_n 0, 1) := by decide +kernel
theorem dX11_init_14 : decode cX11_init 14 = .ok (.iconst 3, 1) := by decide +kernel
theorem dX11_init_15 : decode cX11_init 15 = .ok (.newarray .boolean, 2) := by decide +kernel
theorem dX11_init_17 : decode cX11_init 17 = .ok (.putfield 13, 3) := by decide +kernel
theorem dX11_init_20 : decode cX11_init 20 = .ok (.aload_n 0, 1) := by decide +kernel
theorem dX11_init_21 : decode cX11_init 21 = .ok (.bipush 9, 2) := by decide +kernel
theorem dX11_init_23 : decode cX11_init 23 = .ok (.newarray .int, 2) := by decide +kernel
theorem dX11_init_25 : decode cX11_init 25 = .ok (.putfield 17, 3) := by decide +kernel
theorem dX11_init_28 : decode cX11_init 28 = .ok (.aload_n 0, 1) := by decide +kernel
theorem dX11_init_29 : decode cX11_init 29 = .ok (.bipush 9, 2) := by decide +kernel
theorem dX11_init_31 : decode cX11_init 31 = .ok (.newarray .int, 2) := by decide +kernel
theorem dX11_init_33 : decode cX11_init 33 = .ok (.putfield 20, 3) := by decide +kernel
theorem dX11_init_36 : decode cX11_init 36 = .ok (.aload_n 0, 1) := by decide +kernel
theorem dX11_init_37 : decode cX11_init 37 = .ok (.bipush 9, 2) := by decide +kernel
theorem dX11_init_39 : decode cX11_init 39 = .ok (.newarray .int, 2) := by decide +kernel
theorem dX11_init_41 : decode cX11_init 41 = .ok (.putfield 23, 3) := by decide +kernel
theorem dX11_init_44 : decode cX11_init 44 = .ok (.aload_n 0, 1) := by decide +kernel
theorem dX11_init_45 : decode cX11_init 45 = .ok (.bipush 32, 2) := by decide +kernel
theorem dX11_init_47 : decode cX11_init 47 = .ok (.newarray .int, 2) := by decide +kernel
theorem dX11_init_49 : decode cX11_init 49 = .ok (.putfield 26, 3) := by decide +kernel
theorem dX11_init_52 : decode cX11_init 52 = .ok (.aload_n 0, 1) := by decide +kernel
theorem dX11_init_53 : decode cX11_init 53 = .ok (.sipush 625, 3) := by decide +kernel
theorem dX11_init_56 : decode cX11_init 56 = .ok (.newarray .int, 2) := by decide +kernel
theorem dX11_init_58 : decode cX11_init 58 = .ok (.putfield 29, 3) := by decide +kernel
theorem dX11_init_61 : decode cX11_init 61 = .ok (.aload_n 0, 1) := by decide +kernel
theorem dX11_init_62 : decode cX11_init 62 = .ok (.sipush 625, 3) := by decide +kernel
theorem dX11_init_65 : decode cX11_init 65 = .ok (.newarray .int, 2) := by decide +kernel
theorem dX11_init_67 : decode cX11_init 67 = .ok (.putfield 32, 3) := by decide +kernel
theorem dX11_init_70 : decode cX11_init 70 = .ok (.aload_n 0, 1) := by decide +kernel
theorem dX11_init_71 : decode cX11_init 71 = .ok (.sipush 625, 3) := by decide +kernel
theorem dX11_init_74 : decode cX11_init 74 = .ok (.newarray .int, 2) := by decide +kernel
theorem dX11_init_76 : decode cX11_init 76 = .ok (.putfield 35, 3) := by decide +kernel
theorem dX11_init_79 : decode cX11_init 79 = .ok (.aload_n 0, 1) := by decide +kernel
theorem dX11_init_80 : decode cX11_init 80 = .ok (.getfield 7, 3) := by decide +kernel
theorem dX11_init_83 : decode cX11_init 83 = .ok (.iconst 5, 1) := by decide +kernel
theorem dX11_init_84 : decode cX11_init 84 = .ok (.bipush 10, 2) := by decide +kernel
theorem dX11_init_86 : decode cX11_init 86 = .ok (.iastore, 1) := by decide +kernel
theorem dX11_init_87 : decode cX11_init 87 = .ok (.aload_n 0, 1) := by decide +kernel
theorem dX11_init_88 : decode cX11_init 88 = .ok (.getfield 7, 3) := by decide +kernel
theorem dX11_init_91 : decode cX11_init 91 = .ok (.bipush 6, 2) := by decide +kernel
theorem dX11_init_93 : decode cX11_init 93 = .ok (.bipush 50, 2) := by decide +kernel
theorem dX11_init_95 : decode cX11_init 95 = .ok (.iastore, 1) := by decide +kernel
theorem dX11_init_96 : decode cX11_init 96 = .ok (.aload_n 0, 1) := by decide +kernel
theorem dX11_init_97 : decode cX11_init 97 = .ok (.getfield 7, 3) := by decide +kernel
theorem dX11_init_100 : decode cX11_init 100 = .ok (.bipush 7, 2) := by decide +kernel
theorem dX11_init_102 : decode cX11_init 102 = .ok (.sipush 200, 3) := by decide +kernel
theorem dX11_init_105 : decode cX11_init 105 = .ok (.iastore, 1) := by decide +kernel
theorem dX11_init_106 : decode cX11_init 106 = .ok (.aload_n 0, 1) := by decide +kernel
theorem dX11_init_107 : decode cX11_init 107 = .ok (.getfield 7, 3) := by decide +kernel
theorem dX11_init_110 : decode cX11_init 110 = .ok (.bipush 8, 2) := by decide +kernel
theorem dX11_init_112 : decode cX11_init 112 = .ok (.iconst 1, 1) := by decide +kernel
theorem dX11_init_113 : decode cX11_init 113 = .ok (.iastore, 1) := by decide +kernel
theorem dX11_init_114 : decode cX11_init 114 = .ok (.iconst 0, 1) := by decide +kernel
theorem dX11_init_115 : decode cX11_init 115 = .ok (.istore_n 1, 1) := by decide +kernel
theorem dX11_init_116 : decode cX11_init 116 = .ok (.iload_n 1, 1) := by decide +kernel
theorem dX11_init_117 : decode cX11_init 117 = .ok (.bipush 8, 2) := by decide +kernel
theorem dX11_init_119 : decode cX11_init 119 = .ok (.if_icmp .ge 38, 3) := by decide +kernel
theorem dX11_init_122 : decode cX11_init 122 = .ok (.iconst 0, 1) := by decide +kernel
theorem dX11_init_123 : decode cX11_init 123 = .ok (.istore_n 2, 1) := by decide +kernel
theorem dX11_init_124 : decode cX11_init 124 = .ok (.iload_n 2, 1) := by decide +kernel
theorem dX11_init_125 : decode cX11_init 125 = .ok (.iconst 4, 1) := by decide +kernel
theorem dX11_init_126 : decode cX11_init 126 = .ok (.if_icmp .ge 25, 3) := by decide +kernel
theorem dX11_init_129 : decode cX11_init 129 = .ok (.aload_n 0, 1) := by decide +kernel
theorem dX11_init_130 : decode cX11_init 130 = .ok (.getfield 7, 3) := by decide +kernel
theorem dX11_init_133 : decode cX11_init 133 = .ok (.sipush 250, 3) := by decide +kernel
theorem dX11_init_136 : decode cX11_init 136 = .ok (.bipush 6, 2) := by decide +kernel
theorem dX11_init_138 : decode cX11_init 138 = .ok (.iload_n 1, 1) := by decide +kernel
theorem dX11_init_139 : decode cX11_init 139 = .ok (.imul, 1) := by decide +kernel
theorem dX11_init_140 : decode cX11_init 140 = .ok (.iadd, 1) := by decide +kernel
theorem dX11_init_141 : decode cX11_init 141 = .ok (.iload_n 2, 1) := by decide +kernel
theorem dX11_init_142 : decode cX11_init 142 = .ok (.iadd, 1) := by decide +kernel
theorem dX11_init_143 : decode cX11_init 143 = .ok (.iload_n 1, 1) := by decide +kernel
theorem dX11_init_144 : decode cX11_init 144 = .ok (.iastore, 1) := by decide +kernel
theorem dX11_init_145 : decode cX11_init 145 = .ok (.iinc 2 1, 3) := by decide +kernel
theorem dX11_init_148 : decode cX11_init 148 = .ok (.goto (-24), 3) := by decide +kernel
theorem dX11_init_151 : decode cX11_init 151 = .ok (.iinc 1 1, 3) := by decide +kernel
theorem dX11_init_154 : decode cX11_init 154 = .ok (.goto (-38), 3) := by decide +kernel
theorem dX11_init_157 : decode cX11_init 157 = .ok (.return_, 1) := by decide +kernel
theorem dX11_isIn_0 : decode cX11_isIn 0 = .ok (.iload_n 0, 1) := by decide +kernel
theorem dX11_isIn_1 : decode cX11_isIn 1 = .ok (.iload_n 1, 1) := by decide +kernel
theorem dX11_isIn_2 : decode cX11_isIn 2 = .ok (.if_icmp .lt 12, 3) := by decide +kernel
theorem dX11_isIn_5 : decode cX11_isIn 5 = .ok (.iload_n 0, 1) := by decide +kernel
theorem dX11_isIn_6 : decode cX11_isIn 6 = .ok (.iload_n 2, 1) := by decide +kernel
theorem dX11_isIn_7 : decode cX11_isIn 7 = .ok (.if_icmp .gt 7, 3) := by decide +kernel
theorem dX11_isIn_10 : decode cX11_isIn 10 = .ok (.iconst 1, 1) := by decide +kernel
theorem dX11_isIn_11 : decode cX11_isIn 11 = .ok (.goto 4, 3) := by decide +kernel
theorem dX11_isIn_14 : decode cX11_isIn 14 = .ok (.iconst 0, 1) := by decide +kernel
theorem dX11_isIn_15 : decode cX11_isIn 15 = .ok (.ireturn, 1) := by decide +kernel
theorem dX11_isOf_0 : decode cX11_isOf 0 = .ok (.iload_n 1, 1) := by decide +kernel
theorem dX11_isOf_1 : decode cX11_isOf 1 = .ok (.iconst 0, 1) := by decide +kernel
theorem dX11_isOf_2 : decode cX11_isOf 2 = .ok (.aload_n 0, 1) := by decide +kernel
theorem dX11_isOf_3 : decode cX11_isOf 3 = .ok (.getfield 7, 3) := by decide +kernel
theorem dX11_isOf_6 : decode cX11_isOf 6 = .ok (.iload_n 2, 1) := by decide +kernel
theorem dX11_isOf_7 : decode cX11_isOf 7 = .ok (.iaload, 1) := by decide +kernel
theorem dX11_isOf_8 : decode cX11_isOf 8 = .ok (.iconst 1, 1) := by decide +kernel
theorem dX11_isOf_9 : decode cX11_isOf 9 = .ok (.isub, 1) := by decide +kernel
theorem dX11_isOf_10 : decode cX11_isOf 10 = .ok (.invokestatic 38, 3) := by decide +kernel
theorem dX11_isOf_13 : decode cX11_isOf 13 = .ok (.ireturn, 1) := by decide +kernel
theorem dX11_bin_0 : decode cX11_bin 0 = .ok (.aload_n 0, 1) := by decide +kernel
theorem dX11_bin_1 : decode cX11_bin 1 = .ok (.getfield 7, 3) := by decide +kernel
theorem dX11_bin_4 : decode cX11_bin 4 = .ok (.iconst 0, 1) := by decide +kernel
theorem dX11_bin_5 : decode cX11_bin 5 = .ok (.iaload, 1) := by decide +kernel
theorem dX11_bin_6 : decode cX11_bin 6 = .ok (.bipush 6, 2) := by decide +kernel
theorem dX11_bin_8 : decode cX11_bin 8 = .ok (.if_icmp .eq 13, 3) := by decide +kernel
theorem dX11_bin_11 : decode cX11_bin 11 = .ok (.iload_n 1, 1) := by decide +kernel
theorem dX11_bin_12 : decode cX11_bin 12 = .ok (.iconst 0, 1) := by decide +kernel
theorem dX11_bin_13 : decode cX11_bin 13 = .ok (.bipush 20, 2) := by decide +kernel
theorem dX11_bin_15 : decode cX11_bin 15 = .ok (.invokestatic 38, 3) := by decide +kernel
theorem dX11_bin_18 : decode cX11_bin 18 = .ok (.ifCond .ne 5, 3) := by decide +kernel
theorem dX11_bin_21 : decode cX11_bin 21 = .ok (.iconst (-1), 1) := by decide +kernel
theorem dX11_bin_22 : decode cX11_bin 22 = .ok (.ireturn, 1) := by decide +kernel
theorem dX11_bin_23 : decode cX11_bin 23 = .ok (.bipush 10, 2) := by decide +kernel
theorem dX11_bin_25 : decode cX11_bin 25 = .ok (.iconst 3, 1) := by decide +kernel
theorem dX11_bin_26 : decode cX11_bin 26 = .ok (.aload_n 0, 1) := by decide +kernel
theorem dX11_bin_27 : decode cX11_bin 27 = .ok (.getfield 7, 3) := by decide +kernel
theorem dX11_bin_30 : decode cX11_bin 30 = .ok (.iconst 0, 1) := by decide +kernel
theorem dX11_bin_31 : decode cX11_bin 31 = .ok (.iaload, 1) := by decide +kernel
theorem dX11_bin_32 : decode cX11_bin 32 = .ok (.imul, 1) := by decide +kernel
theorem dX11_bin_33 : decode cX11_bin 33 = .ok (.iadd, 1) := by decide +kernel
theorem dX11_bin_34 : decode cX11_bin 34 = .ok (.istore_n 3, 1) := by decide +kernel
theorem dX11_bin_35 : decode cX11_bin 35 = .ok (.aload_n 0, 1) := by decide +kernel
theorem dX11_bin_36 : decode cX11_bin 36 = .ok (.getfield 7, 3) := by decide +kernel
theorem dX11_bin_39 : decode cX11_bin 39 = .ok (.iload_n 3, 1) := by decide +kernel
theorem dX11_bin_40 : decode cX11_bin 40 = .ok (.iconst 0, 1) := by decide +kernel
theorem dX11_bin_41 : decode cX11_bin 41 = .ok (.iastore, 1) := by decide +kernel
theorem dX11_bin_42 : decode cX11_bin 42 = .ok (.aload_n 0, 1) := by decide +kernel
theorem dX11_bin_43 : decode cX11_bin 43 = .ok (.getfield 7, 3) := by decide +kernel
theorem dX11_bin_46 : decode cX11_bin 46 = .ok (.iload_n 3, 1) := by decide +kernel
theorem dX11_bin_47 : decode cX11_bin 47 = .ok (.iconst 1, 1) := by decide +kernel
theorem dX11_bin_48 : decode cX11_bin 48 = .ok (.iadd, 1) := by decide +kernel
theorem dX11_bin_49 : decode cX11_bin 49 = .ok (.iload_n 1, 1) := by decide +kernel
theorem dX11_bin_50 : decode cX11_bin 50 = .ok (.iastore, 1) := by decide +kernel
theorem dX11_bin_51 : decode cX11_bin 51 = .ok (.aload_n 0, 1) := by decide +kernel
theorem dX11_bin_52 : decode cX11_bin 52 = .ok (.getfield 7, 3) := by decide +kernel
theorem dX11_bin_55 : decode cX11_bin 55 = .ok (.iload_n 3, 1) := by decide +kernel
theorem dX11_bin_56 : decode cX11_bin 56 = .ok (.iconst 2, 1) := by decide +kernel
theorem dX11_bin_57 : decode cX11_bin 57 = .ok (.iadd, 1) := by decide +kernel
theorem dX11_bin_58 : decode cX11_bin 58 = .ok (.iload_n 2, 1) := by decide +kernel
theorem dX11_bin_59 : decode cX11_bin 59 = .ok (.ifCond .eq 7, 3) := by decide +kernel
theorem dX11_bin_62 : decode cX11_bin 62 = .ok (.iconst 1, 1) := by decide +kernel
theorem dX11_bin_63 : decode cX11_bin 63 = .ok (.goto 4, 3) := by decide +kernel
theorem dX11_bin_66 : decode cX11_bin 66 = .ok (.iconst 0, 1) := by decide +kernel
theorem dX11_bin_67 : decode cX11_bin 67 = .ok (.iastore, 1) := by decide +kernel
theorem dX11_bin_68 : decode cX11_bin 68 = .ok (.aload_n 0, 1) := by decide +kernel
theorem dX11_bin_69 : decode cX11_bin 69 = .ok (.getfield 7, 3) := by decide +kernel
theorem dX11_bin_72 : decode cX11_bin 72 = .ok (.iconst 0, 1) := by decide +kernel
theorem dX11_bin_73 : decode cX11_bin 73 = .ok (.dup2, 1) := by decide +kernel
theorem dX11_bin_74 : decode cX11_bin 74 = .ok (.iaload, 1) := by decide +kernel
theorem dX11_bin_75 : decode cX11_bin 75 = .ok (.iconst 1, 1) := by decide +kernel
theorem dX11_bin_76 : decode cX11_bin 76 = .ok (.iadd, 1) := by decide +kernel
theorem dX11_bin_77 : decode cX11_bin 77 = .ok (.iastore, 1) := by decide +kernel
theorem dX11_bin_78 : decode cX11_bin 78 = .ok (.aload_n 0, 1) := by decide +kernel
theorem dX11_bin_79 : decode cX11_bin 79 = .ok (.getfield 7, 3) := by decide +kernel
theorem dX11_bin_82 : decode cX11_bin 82 = .ok (.iconst 0, 1) := by decide +kernel
theorem dX11_bin_83 : decode cX11_bin 83 = .ok (.iaload, 1) := by decide +kernel
theorem dX11_bin_84 : decode cX11_bin 84 = .ok (.iconst 1, 1) := by decide +kernel
theorem dX11_bin_85 : decode cX11_bin 85 = .ok (.isub, 1) := by decide +kernel
theorem dX11_bin_86 : decode cX11_bin 86 = .ok (.ireturn, 1) := by decide +kernel
theorem dX11_fill_0 : decode cX11_fill 0 = .ok (.aload_n 0, 1) := by decide +kernel
theorem dX11_fill_1 : decode cX11_fill 1 = .ok (.iload_n 1, 1) := by decide +kernel
theorem dX11_fill_2 : decode cX11_fill 2 = .ok (.iconst 0, 1) := by decide +kernel
theorem dX11_fill_3 : decode cX11_fill 3 = .ok (.invokevirtual 42, 3) := by decide +kernel
theorem dX11_fill_6 : decode cX11_fill 6 = .ok (.ifCond .eq 25, 3) := by decide +kernel
theorem dX11_fill_9 : decode cX11_fill 9 = .ok (.iload_n 2, 1) := by decide +kernel
theorem dX11_fill_10 : decode cX11_fill 10 = .ok (.iconst 1, 1) := by decide +kernel
theorem dX11_fill_11 : decode cX11_fill 11 = .ok (.ldc 46, 2) := by decide +kernel
theorem dX11_fill_13 : decode cX11_fill 13 = .ok (.aload_n 0, 1) := by decide +kernel
theorem dX11_fill_14 : decode cX11_fill 14 = .ok (.getfield 7, 3) := by decide +kernel
theorem dX11_fill_17 : decode cX11_fill 17 = .ok (.bipush 10, 2) := by decide +kernel
theorem dX11_fill_19 : decode cX11_fill 19 = .ok (.iconst 3, 1) := by decide +kernel
theorem dX11_fill_20 : decode cX11_fill 20 = .ok (.iload_n 1, 1) := by decide +kernel
theorem dX11_fill_21 : decode cX11_fill 21 = .ok (.imul, 1) := by decide +kernel
theorem dX11_fill_22 : decode cX11_fill 22 = .ok (.iadd, 1) := by decide +kernel
theorem dX11_fill_23 : decode cX11_fill 23 = .ok (.iaload, 1) := by decide +kernel
theorem dX11_fill_24 : decode cX11_fill 24 = .ok (.isub, 1) := by decide +kernel
theorem dX11_fill_25 : decode cX11_fill 25 = .ok (.invokestatic 38, 3) := by decide +kernel
theorem dX11_fill_28 : decode cX11_fill 28 = .ok (.ifCond .ne 5, 3) := by decide +kernel
theorem dX11_fill_31 : decode cX11_fill 31 = .ok (.iconst (-1), 1) := by decide +kernel
theorem dX11_fill_32 : decode cX11_fill 32 = .ok (.ireturn, 1) := by decide +kernel
theorem dX11_fill_33 : decode cX11_fill 33 = .ok (.aload_n 0, 1) := by decide +kernel
theorem dX11_fill_34 : decode cX11_fill 34 = .ok (.getfield 7, 3) := by decide +kernel
theorem dX11_fill_37 : decode cX11_fill 37 = .ok (.bipush 10, 2) := by decide +kernel
theorem dX11_fill_39 : decode cX11_fill 39 = .ok (.iconst 3, 1) := by decide +kernel
theorem dX11_fill_40 : decode cX11_fill 40 = .ok (.iload_n 1, 1) := by decide +kernel
theorem dX11_fill_41 : decode cX11_fill 41 = .ok (.imul, 1) := by decide +kernel
theorem dX11_fill_42 : decode cX11_fill 42 = .ok (.iadd, 1) := by decide +kernel
theorem dX11_fill_43 : decode cX11_fill 43 = .ok (.dup2, 1) := by decide +kernel
theorem dX11_fill_44 : decode cX11_fill 44 = .ok (.iaload, 1) := by decide +kernel
theorem dX11_fill_45 : decode cX11_fill 45 = .ok (.iload_n 2, 1) := by decide +kernel
theorem dX11_fill_46 : decode cX11_fill 46 = .ok (.iadd, 1) := by decide +kernel
theorem dX11_fill_47 : decode cX11_fill 47 = .ok (.iastore, 1) := by decide +kernel
theorem dX11_fill_48 : decode cX11_fill 48 = .ok (.aload_n 0, 1) := by decide +kernel
theorem dX11_fill_49 : decode cX11_fill 49 = .ok (.getfield 7, 3) := by decide +kernel
theorem dX11_fill_52 : decode cX11_fill 52 = .ok (.bipush 10, 2) := by decide +kernel
theorem dX11_fill_54 : decode cX11_fill 54 = .ok (.iconst 3, 1) := by decide +kernel
theorem dX11_fill_55 : decode cX11_fill 55 = .ok (.iload_n 1, 1) := by decide +kernel
theorem dX11_fill_56 : decode cX11_fill 56 = .ok (.imul, 1) := by decide +kernel
theorem dX11_fill_57 : decode cX11_fill 57 = .ok (.iadd, 1) := by decide +kernel
theorem dX11_fill_58 : decode cX11_fill 58 = .ok (.iaload, 1) := by decide +kernel
theorem dX11_fill_59 : decode cX11_fill 59 = .ok (.ireturn, 1) := by decide +kernel
theorem dX11_lot_0 : decode cX11_lot 0 = .ok (.aload_n 0, 1) := by decide +kernel
theorem dX11_lot_1 : decode cX11_lot 1 = .ok (.getfield 7, 3) := by decide +kernel
theorem dX11_lot_4 : decode cX11_lot 4 = .ok (.iconst 1, 1) := by decide +kernel
theorem dX11_lot_5 : decode cX11_lot 5 = .ok (.iaload, 1) := by decide +kernel
theorem dX11_lot_6 : decode cX11_lot 6 = .ok (.bipush 8, 2) := by decide +kernel
theorem dX11_lot_8 : decode cX11_lot 8 = .ok (.if_icmp .eq 13, 3) := by decide +kernel
theorem dX11_lot_11 : decode cX11_lot 11 = .ok (.iload_n 1, 1) := by decide +kernel
theorem dX11_lot_12 : decode cX11_lot 12 = .ok (.iconst 1, 1) := by decide +kernel
theorem dX11_lot_13 : decode cX11_lot 13 = .ok (.ldc 47, 2) := by decide +kernel
theorem dX11_lot_15 : decode cX11_lot 15 = .ok (.invokestatic 38, 3) := by decide +kernel
theorem dX11_lot_18 : decode cX11_lot 18 = .ok (.ifCond .ne 5, 3) := by decide +kernel
theorem dX11_lot_21 : decode cX11_lot 21 = .ok (.iconst (-1), 1) := by decide +kernel
theorem dX11_lot_22 : decode cX11_lot 22 = .ok (.ireturn, 1) := by decide +kernel
theorem dX11_lot_23 : decode cX11_lot 23 = .ok (.aload_n 0, 1) := by decide +kernel
theorem dX11_lot_24 : decode cX11_lot 24 = .ok (.getfield 7, 3) := by decide +kernel
theorem dX11_lot_27 : decode cX11_lot 27 = .ok (.bipush 30, 2) := by decide +kernel
theorem dX11_lot_29 : decode cX11_lot 29 = .ok (.aload_n 0, 1) := by decide +kernel
theorem dX11_lot_30 : decode cX11_lot 30 = .ok (.getfield 7, 3) := by decide +kernel
theorem dX11_lot_33 : decode cX11_lot 33 = .ok (.iconst 1, 1) := by decide +kernel
theorem dX11_lot_34 : decode cX11_lot 34 = .ok (.iaload, 1) := by decide +kernel
theorem dX11_lot_35 : decode cX11_lot 35 = .ok (.iadd, 1) := by decide +kernel
theorem dX11_lot_36 : decode cX11_lot 36 = .ok (.iload_n 1, 1) := by decide +kernel
theorem dX11_lot_37 : decode cX11_lot 37 = .ok (.iastore, 1) := by decide +kernel
theorem dX11_lot_38 : decode cX11_lot 38 = .ok (.aload_n 0, 1) := by decide +kernel
theorem dX11_lot_39 : decode cX11_lot 39 = .ok (.getfield 7, 3) := by decide +kernel
theorem dX11_lot_42 : decode cX11_lot 42 = .ok (.iconst 1, 1) := by decide +kernel
theorem dX11_lot_43 : decode cX11_lot 43 = .ok (.dup2, 1) := by decide +kernel
theorem dX11_lot_44 : decode cX11_lot 44 = .ok (.iaload, 1) := by decide +kernel
theorem dX11_lot_45 : decode cX11_lot 45 = .ok (.iconst 1, 1) := by decide +kernel
theorem dX11_lot_46 : decode cX11_lot 46 = .ok (.iadd, 1) := by decide +kernel
theorem dX11_lot_47 : decode cX11_lot 47 = .ok (.iastore, 1) := by decide +kernel
theorem dX11_lot_48 : decode cX11_lot 48 = .ok (.aload_n 0, 1) := by decide +kernel
theorem dX11_lot_49 : decode cX11_lot 49 = .ok (.getfield 7, 3) := by decide +kernel
theorem dX11_lot_52 : decode cX11_lot 52 = .ok (.iconst 1, 1) := by decide +kernel
theorem dX11_lot_53 : decode cX11_lot 53 = .ok (.iaload, 1) := by decide +kernel
theorem dX11_lot_54 : decode cX11_lot 54 = .ok (.iconst 1, 1) := by decide +kernel
theorem dX11_lot_55 : decode cX11_lot 55 = .ok (.isub, 1) := by decide +kernel
theorem dX11_lot_56 : decode cX11_lot 56 = .ok (.ireturn, 1) := by decide +kernel
theorem dX11_leastOf_0 : decode cX11_leastOf 0 = .ok (.iload_n 0, 1) := by decide +kernel
theorem dX11_leastOf_1 : decode cX11_leastOf 1 = .ok (.ifCond .eq 8, 3) := by decide +kernel
theorem dX11_leastOf_4 : decode cX11_leastOf 4 = .ok (.iload_n 0, 1) := by decide +kernel
theorem dX11_leastOf_5 : decode cX11_leastOf 5 = .ok (.iconst 2, 1) := by decide +kernel
theorem dX11_leastOf_6 : decode cX11_leastOf 6 = .ok (.if_icmp .ne 7, 3) := by decide +kernel
theorem dX11_leastOf_9 : decode cX11_leastOf 9 = .ok (.iconst 1, 1) := by decide +kernel
theorem dX11_leastOf_10 : decode cX11_leastOf 10 = .ok (.goto 4, 3) := by decide +kernel
theorem dX11_leastOf_13 : decode cX11_leastOf 13 = .ok (.iconst 0, 1) := by decide +kernel
theorem dX11_leastOf_14 : decode cX11_leastOf 14 = .ok (.ireturn, 1) := by decide +kernel
theorem dX11_mostOf_0 : decode cX11_mostOf 0 = .ok (.iload_n 0, 1) := by decide +kernel
theorem dX11_mostOf_1 : decode cX11_mostOf 1 = .ok (.ifCond .ne 8, 3) := by decide +kernel
theorem dX11_mostOf_4 : decode cX11_mostOf 4 = .ok (.bipush 30, 2) := by decide +kernel
theorem dX11_mostOf_6 : decode cX11_mostOf 6 = .ok (.goto 25, 3) := by decide +kernel
theorem dX11_mostOf_9 : decode cX11_mostOf 9 = .ok (.iload_n 0, 1) := by decide +kernel
theorem dX11_mostOf_10 : decode cX11_mostOf 10 = .ok (.iconst 1, 1) := by decide +kernel
theorem dX11_mostOf_11 : decode cX11_mostOf 11 = .ok (.if_icmp .ne 8, 3) := by decide +kernel
theorem dX11_mostOf_14 : decode cX11_mostOf 14 = .ok (.bipush 100, 2) := by decide +kernel
theorem dX11_mostOf_16 : decode cX11_mostOf 16 = .ok (.goto 15, 3) := by decide +kernel
theorem dX11_mostOf_19 : decode cX11_mostOf 19 = .ok (.iload_n 0, 1) := by decide +kernel
theorem dX11_mostOf_20 : decode cX11_mostOf 20 = .ok (.iconst 2, 1) := by decide +kernel
theorem dX11_mostOf_21 : decode cX11_mostOf 21 = .ok (.if_icmp .ne 9, 3) := by decide +kernel
theorem dX11_mostOf_24 : decode cX11_mostOf 24 = .ok (.sipush 5000, 3) := by decide +kernel
theorem dX11_mostOf_27 : decode cX11_mostOf 27 = .ok (.goto 4, 3) := by decide +kernel
theorem dX11_mostOf_30 : decode cX11_mostOf 30 = .ok (.iconst 3, 1) := by decide +kernel
theorem dX11_mostOf_31 : decode cX11_mostOf 31 = .ok (.ireturn, 1) := by decide +kernel
theorem dX11_rule_0 : decode cX11_rule 0 = .ok (.iload_n 1, 1) := by decide +kernel
theorem dX11_rule_1 : decode cX11_rule 1 = .ok (.iconst 0, 1) := by decide +kernel
theorem dX11_rule_2 : decode cX11_rule 2 = .ok (.iconst 3, 1) := by decide +kernel
theorem dX11_rule_3 : decode cX11_rule 3 = .ok (.invokestatic 38, 3) := by decide +kernel
theorem dX11_rule_6 : decode cX11_rule 6 = .ok (.ifCond .eq 18, 3) := by decide +kernel
theorem dX11_rule_9 : decode cX11_rule 9 = .ok (.iload_n 2, 1) := by decide +kernel
theorem dX11_rule_10 : decode cX11_rule 10 = .ok (.iload_n 1, 1) := by decide +kernel
theorem dX11_rule_11 : decode cX11_rule 11 = .ok (.invokestatic 48, 3) := by decide +kernel
theorem dX11_rule_14 : decode cX11_rule 14 = .ok (.iload_n 1, 1) := by decide +kernel
theorem dX11_rule_15 : decode cX11_rule 15 = .ok (.invokestatic 52, 3) := by decide +kernel
theorem dX11_rule_18 : decode cX11_rule 18 = .ok (.invokestatic 38, 3) := by decide +kernel
theorem dX11_rule_21 : decode cX11_rule 21 = .ok (.ifCond .ne 5, 3) := by decide +kernel
theorem dX11_rule_24 : decode cX11_rule 24 = .ok (.iconst 0, 1) := by decide +kernel
theorem dX11_rule_25 : decode cX11_rule 25 = .ok (.ireturn, 1) := by decide +kernel
theorem dX11_rule_26 : decode cX11_rule 26 = .ok (.aload_n 0, 1) := by decide +kernel
theorem dX11_rule_27 : decode cX11_rule 27 = .ok (.getfield 7, 3) := by decide +kernel
theorem dX11_rule_30 : decode cX11_rule 30 = .ok (.iconst 5, 1) := by decide +kernel
theorem dX11_rule_31 : decode cX11_rule 31 = .ok (.iload_n 1, 1) := by decide +kernel
theorem dX11_rule_32 : decode cX11_rule 32 = .ok (.iadd, 1) := by decide +kernel
theorem dX11_rule_33 : decode cX11_rule 33 = .ok (.iload_n 2, 1) := by decide +kernel
theorem dX11_rule_34 : decode cX11_rule 34 = .ok (.iastore, 1) := by decide +kernel
theorem dX11_rule_35 : decode cX11_rule 35 = .ok (.iconst 1, 1) := by decide +kernel
theorem dX11_rule_36 : decode cX11_rule 36 = .ok (.ireturn, 1) := by decide +kernel
theorem dX11_glueLeft_0 : decode cX11_glueLeft 0 = .ok (.iconst 0, 1) := by decide +kernel
theorem dX11_glueLeft_1 : decode cX11_glueLeft 1 = .ok (.istore_n 1, 1) := by decide +kernel
theorem dX11_glueLeft_2 : decode cX11_glueLeft 2 = .ok (.iconst 0, 1) := by decide +kernel
theorem dX11_glueLeft_3 : decode cX11_glueLeft 3 = .ok (.istore_n 2, 1) := by decide +kernel
theorem dX11_glueLeft_4 : decode cX11_glueLeft 4 = .ok (.iload_n 2, 1) := by decide +kernel
theorem dX11_glueLeft_5 : decode cX11_glueLeft 5 = .ok (.aload_n 0, 1) := by decide +kernel
theorem dX11_glueLeft_6 : decode cX11_glueLeft 6 = .ok (.getfield 7, 3) := by decide +kernel
theorem dX11_glueLeft_9 : decode cX11_glueLeft 9 = .ok (.iconst 1, 1) := by decide +kernel
theorem dX11_glueLeft_10 : decode cX11_glueLeft 10 = .ok (.iaload, 1) := by decide +kernel
theorem dX11_glueLeft_11 : decode cX11_glueLeft 11 = .ok (.if_icmp .ge 21, 3) := by decide +kernel
theorem dX11_glueLeft_14 : decode cX11_glueLeft 14 = .ok (.iload_n 1, 1) := by decide +kernel
theorem dX11_glueLeft_15 : decode cX11_glueLeft 15 = .ok (.aload_n 0, 1) := by decide +kernel
theorem dX11_glueLeft_16 : decode cX11_glueLeft 16 = .ok (.getfield 7, 3) := by decide +kernel
theorem dX11_glueLeft_19 : decode cX11_glueLeft 19 = .ok (.bipush 30, 2) := by decide +kernel
theorem dX11_glueLeft_21 : decode cX11_glueLeft 21 = .ok (.iload_n 2, 1) := by decide +kernel
theorem dX11_glueLeft_22 : decode cX11_glueLeft 22 = .ok (.iadd, 1) := by decide +kernel
theorem dX11_glueLeft_23 : decode cX11_glueLeft 23 = .ok (.iaload, 1) := by decide +kernel
theorem dX11_glueLeft_24 : decode cX11_glueLeft 24 = .ok (.iadd, 1) := by decide +kernel
theorem dX11_glueLeft_25 : decode cX11_glueLeft 25 = .ok (.istore_n 1, 1) := by decide +kernel
theorem dX11_glueLeft_26 : decode cX11_glueLeft 26 = .ok (.iinc 2 1, 3) := by decide +kernel
theorem dX11_glueLeft_29 : decode cX11_glueLeft 29 = .ok (.goto (-25), 3) := by decide +kernel
theorem dX11_glueLeft_32 : decode cX11_glueLeft 32 = .ok (.iload_n 1, 1) := by decide +kernel
theorem dX11_glueLeft_33 : decode cX11_glueLeft 33 = .ok (.ireturn, 1) := by decide +kernel
theorem dX11_takes_0 : decode cX11_takes 0 = .ok (.iconst 0, 1) := by decide +kernel
theorem dX11_takes_1 : decode cX11_takes 1 = .ok (.istore_n 2, 1) := by decide +kernel
theorem dX11_takes_2 : decode cX11_takes 2 = .ok (.iload_n 1, 1) := by decide +kernel
theorem dX11_takes_3 : decode cX11_takes 3 = .ok (.istore_n 3, 1) := by decide +kernel
theorem dX11_takes_4 : decode cX11_takes 4 = .ok (.iconst 0, 1) := by decide +kernel
theorem dX11_takes_5 : decode cX11_takes 5 = .ok (.istore 4, 2) := by decide +kernel
theorem dX11_takes_7 : decode cX11_takes 7 = .ok (.iload 4, 2) := by decide +kernel
theorem dX11_takes_9 : decode cX11_takes 9 = .ok (.aload_n 0, 1) := by decide +kernel
theorem dX11_takes_10 : decode cX11_takes 10 = .ok (.getfield 7, 3) := by decide +kernel
theorem dX11_takes_13 : decode cX11_takes 13 = .ok (.iconst 1, 1) := by decide +kernel
theorem dX11_takes_14 : decode cX11_takes 14 = .ok (.iaload, 1) := by decide +kernel
theorem dX11_takes_15 : decode cX11_takes 15 = .ok (.if_icmp .ge 71, 3) := by decide +kernel
theorem dX11_takes_18 : decode cX11_takes 18 = .ok (.iload_n 3, 1) := by decide +kernel
theorem dX11_takes_19 : decode cX11_takes 19 = .ok (.aload_n 0, 1) := by decide +kernel
theorem dX11_takes_20 : decode cX11_takes 20 = .ok (.getfield 7, 3) := by decide +kernel
theorem dX11_takes_23 : decode cX11_takes 23 = .ok (.bipush 30, 2) := by decide +kernel
theorem dX11_takes_25 : decode cX11_takes 25 = .ok (.iload 4, 2) := by decide +kernel
theorem dX11_takes_27 : decode cX11_takes 27 = .ok (.iadd, 1) := by decide +kernel
theorem dX11_takes_28 : decode cX11_takes 28 = .ok (.iaload, 1) := by decide +kernel
theorem dX11_takes_29 : decode cX11_takes 29 = .ok (.if_icmp .ge 7, 3) := by decide +kernel
theorem dX11_takes_32 : decode cX11_takes 32 = .ok (.iload_n 3, 1) := by decide +kernel
theorem dX11_takes_33 : decode cX11_takes 33 = .ok (.goto 13, 3) := by decide +kernel
theorem dX11_takes_36 : decode cX11_takes 36 = .ok (.aload_n 0, 1) := by decide +kernel
theorem dX11_takes_37 : decode cX11_takes 37 = .ok (.getfield 7, 3) := by decide +kernel
theorem dX11_takes_40 : decode cX11_takes 40 = .ok (.bipush 30, 2) := by decide +kernel
theorem dX11_takes_42 : decode cX11_takes 42 = .ok (.iload 4, 2) := by decide +kernel
theorem dX11_takes_44 : decode cX11_takes 44 = .ok (.iadd, 1) := by decide +kernel
theorem dX11_takes_45 : decode cX11_takes 45 = .ok (.iaload, 1) := by decide +kernel
theorem dX11_takes_46 : decode cX11_takes 46 = .ok (.istore 5, 2) := by decide +kernel
theorem dX11_takes_48 : decode cX11_takes 48 = .ok (.aload_n 0, 1) := by decide +kernel
theorem dX11_takes_49 : decode cX11_takes 49 = .ok (.getfield 7, 3) := by decide +kernel
theorem dX11_takes_52 : decode cX11_takes 52 = .ok (.bipush 30, 2) := by decide +kernel
theorem dX11_takes_54 : decode cX11_takes 54 = .ok (.iload 4, 2) := by decide +kernel
theorem dX11_takes_56 : decode cX11_takes 56 = .ok (.iadd, 1) := by decide +kernel
theorem dX11_takes_57 : decode cX11_takes 57 = .ok (.dup2, 1) := by decide +kernel
theorem dX11_takes_58 : decode cX11_takes 58 = .ok (.iaload, 1) := by decide +kernel
theorem dX11_takes_59 : decode cX11_takes 59 = .ok (.iload 5, 2) := by decide +kernel
theorem dX11_takes_61 : decode cX11_takes 61 = .ok (.isub, 1) := by decide +kernel
theorem dX11_takes_62 : decode cX11_takes 62 = .ok (.iastore, 1) := by decide +kernel
theorem dX11_takes_63 : decode cX11_takes 63 = .ok (.iload_n 3, 1) := by decide +kernel
theorem dX11_takes_64 : decode cX11_takes 64 = .ok (.iload 5, 2) := by decide +kernel
theorem dX11_takes_66 : decode cX11_takes 66 = .ok (.isub, 1) := by decide +kernel
theorem dX11_takes_67 : decode cX11_takes 67 = .ok (.istore_n 3, 1) := by decide +kernel
theorem dX11_takes_68 : decode cX11_takes 68 = .ok (.iload 5, 2) := by decide +kernel
theorem dX11_takes_70 : decode cX11_takes 70 = .ok (.ifCond .le 10, 3) := by decide +kernel
theorem dX11_takes_73 : decode cX11_takes 73 = .ok (.iload_n 2, 1) := by decide +kernel
theorem dX11_takes_74 : decode cX11_takes 74 = .ok (.iconst 1, 1) := by decide +kernel
theorem dX11_takes_75 : decode cX11_takes 75 = .ok (.iload 4, 2) := by decide +kernel
theorem dX11_takes_77 : decode cX11_takes 77 = .ok (.ishl, 1) := by decide +kernel
theorem dX11_takes_78 : decode cX11_takes 78 = .ok (.ior, 1) := by decide +kernel
theorem dX11_takes_79 : decode cX11_takes 79 = .ok (.istore_n 2, 1) := by decide +kernel
theorem dX11_takes_80 : decode cX11_takes 80 = .ok (.iinc 4 1, 3) := by decide +kernel
theorem dX11_takes_83 : decode cX11_takes 83 = .ok (.goto (-76), 3) := by decide +kernel
theorem dX11_takes_86 : decode cX11_takes 86 = .ok (.iload_n 2, 1) := by decide +kernel
theorem dX11_takes_87 : decode cX11_takes 87 = .ok (.ireturn, 1) := by decide +kernel
theorem dX11_lay_0 : decode cX11_lay 0 = .ok (.aload_n 0, 1) := by decide +kernel
theorem dX11_lay_1 : decode cX11_lay 1 = .ok (.getfield 7, 3) := by decide +kernel
theorem dX11_lay_4 : decode cX11_lay 4 = .ok (.iconst 2, 1) := by decide +kernel
theorem dX11_lay_5 : decode cX11_lay 5 = .ok (.iaload, 1) := by decide +kernel
theorem dX11_lay_6 : decode cX11_lay 6 = .ok (.bipush 24, 2) := by decide +kernel
theorem dX11_lay_8 : decode cX11_lay 8 = .ok (.if_icmp .eq 33, 3) := by decide +kernel
theorem dX11_lay_11 : decode cX11_lay 11 = .ok (.aload_n 0, 1) := by decide +kernel
theorem dX11_lay_12 : decode cX11_lay 12 = .ok (.iload_n 1, 1) := by decide +kernel
theorem dX11_lay_13 : decode cX11_lay 13 = .ok (.iconst 0, 1) := by decide +kernel
theorem dX11_lay_14 : decode cX11_lay 14 = .ok (.invokevirtual 42, 3) := by decide +kernel
theorem dX11_lay_17 : decode cX11_lay 17 = .ok (.ifCond .eq 24, 3) := by decide +kernel
theorem dX11_lay_20 : decode cX11_lay 20 = .ok (.aload_n 0, 1) := by decide +kernel
theorem dX11_lay_21 : decode cX11_lay 21 = .ok (.iload_n 2, 1) := by decide +kernel
theorem dX11_lay_22 : decode cX11_lay 22 = .ok (.iconst 0, 1) := by decide +kernel
theorem dX11_lay_23 : decode cX11_lay 23 = .ok (.invokevirtual 42, 3) := by decide +kernel
theorem dX11_lay_26 : decode cX11_lay 26 = .ok (.ifCond .eq 15, 3) := by decide +kernel
theorem dX11_lay_29 : decode cX11_lay 29 = .ok (.iload_n 3, 1) := by decide +kernel
theorem dX11_lay_30 : decode cX11_lay 30 = .ok (.bipush 10, 2) := by decide +kernel
theorem dX11_lay_32 : decode cX11_lay 32 = .ok (.sipush 10000, 3) := by decide +kernel
theorem dX11_lay_35 : decode cX11_lay 35 = .ok (.invokestatic 38, 3) := by decide +kernel
theorem dX11_lay_38 : decode cX11_lay 38 = .ok (.ifCond .ne 5, 3) := by decide +kernel
theorem dX11_lay_41 : decode cX11_lay 41 = .ok (.iconst (-1), 1) := by decide +kernel
theorem dX11_lay_42 : decode cX11_lay 42 = .ok (.ireturn, 1) := by decide +kernel
theorem dX11_lay_43 : decode cX11_lay 43 = .ok (.bipush 10, 2) := by decide +kernel
theorem dX11_lay_45 : decode cX11_lay 45 = .ok (.iconst 3, 1) := by decide +kernel
theorem dX11_lay_46 : decode cX11_lay 46 = .ok (.iload_n 1, 1) := by decide +kernel
theorem dX11_lay_47 : decode cX11_lay 47 = .ok (.imul, 1) := by decide +kernel
theorem dX11_lay_48 : decode cX11_lay 48 = .ok (.iadd, 1) := by decide +kernel
theorem dX11_lay_49 : decode cX11_lay 49 = .ok (.istore 4, 2) := by decide +kernel
theorem dX11_lay_51 : decode cX11_lay 51 = .ok (.bipush 10, 2) := by decide +kernel
theorem dX11_lay_53 : decode cX11_lay 53 = .ok (.iconst 3, 1) := by decide +kernel
theorem dX11_lay_54 : decode cX11_lay 54 = .ok (.iload_n 2, 1) := by decide +kernel
theorem dX11_lay_55 : decode cX11_lay 55 = .ok (.imul, 1) := by decide +kernel
theorem dX11_lay_56 : decode cX11_lay 56 = .ok (.iadd, 1) := by decide +kernel
theorem dX11_lay_57 : decode cX11_lay 57 = .ok (.istore 5, 2) := by decide +kernel
theorem dX11_lay_59 : decode cX11_lay 59 = .ok (.iconst 4, 1) := by decide +kernel
theorem dX11_lay_60 : decode cX11_lay 60 = .ok (.iload_n 3, 1) := by decide +kernel
theorem dX11_lay_61 : decode cX11_lay 61 = .ok (.imul, 1) := by decide +kernel
theorem dX11_lay_62 : decode cX11_lay 62 = .ok (.bipush 10, 2) := by decide +kernel
theorem dX11_lay_64 : decode cX11_lay 64 = .ok (.idiv, 1) := by decide +kernel
theorem dX11_lay_65 : decode cX11_lay 65 = .ok (.istore 6, 2) := by decide +kernel
theorem dX11_lay_67 : decode cX11_lay 67 = .ok (.iload_n 3, 1) := by decide +kernel
theorem dX11_lay_68 : decode cX11_lay 68 = .ok (.iload 6, 2) := by decide +kernel
theorem dX11_lay_70 : decode cX11_lay 70 = .ok (.isub, 1) := by decide +kernel
theorem dX11_lay_71 : decode cX11_lay 71 = .ok (.istore 7, 2) := by decide +kernel
theorem dX11_lay_73 : decode cX11_lay 73 = .ok (.iload_n 3, 1) := by decide +kernel
theorem dX11_lay_74 : decode cX11_lay 74 = .ok (.aload_n 0, 1) := by decide +kernel
theorem dX11_lay_75 : decode cX11_lay 75 = .ok (.getfield 7, 3) := by decide +kernel
theorem dX11_lay_78 : decode cX11_lay 78 = .ok (.iconst 5, 1) := by decide +kernel
theorem dX11_lay_79 : decode cX11_lay 79 = .ok (.iaload, 1) := by decide +kernel
theorem dX11_lay_80 : decode cX11_lay 80 = .ok (.imul, 1) := by decide +kernel
theorem dX11_lay_81 : decode cX11_lay 81 = .ok (.bipush 100, 2) := by decide +kernel
theorem dX11_lay_83 : decode cX11_lay 83 = .ok (.idiv, 1) := by decide +kernel
theorem dX11_lay_84 : decode cX11_lay 84 = .ok (.istore 8, 2) := by decide +kernel
theorem dX11_lay_86 : decode cX11_lay 86 = .ok (.iload 6, 2) := by decide +kernel
theorem dX11_lay_88 : decode cX11_lay 88 = .ok (.aload_n 0, 1) := by decide +kernel
theorem dX11_lay_89 : decode cX11_lay 89 = .ok (.getfield 7, 3) := by decide +kernel
theorem dX11_lay_92 : decode cX11_lay 92 = .ok (.iload 4, 2) := by decide +kernel
theorem dX11_lay_94 : decode cX11_lay 94 = .ok (.iconst 2, 1) := by decide +kernel
theorem dX11_lay_95 : decode cX11_lay 95 = .ok (.iadd, 1) := by decide +kernel
theorem dX11_lay_96 : decode cX11_lay 96 = .ok (.iaload, 1) := by decide +kernel
theorem dX11_lay_97 : decode cX11_lay 97 = .ok (.imul, 1) := by decide +kernel
theorem dX11_lay_98 : decode cX11_lay 98 = .ok (.iload 7, 2) := by decide +kernel
theorem dX11_lay_100 : decode cX11_lay 100 = .ok (.aload_n 0, 1) := by decide +kernel
theorem dX11_lay_101 : decode cX11_lay 101 = .ok (.getfield 7, 3) := by decide +kernel
theorem dX11_lay_104 : decode cX11_lay 104 = .ok (.iload 5, 2) := by decide +kernel
theorem dX11_lay_106 : decode cX11_lay 106 = .ok (.iconst 2, 1) := by decide +kernel
theorem dX11_lay_107 : decode cX11_lay 107 = .ok (.iadd, 1) := by decide +kernel
theorem dX11_lay_108 : decode cX11_lay 108 = .ok (.iaload, 1) := by decide +kernel
theorem dX11_lay_109 : decode cX11_lay 109 = .ok (.imul, 1) := by decide +kernel
theorem dX11_lay_110 : decode cX11_lay 110 = .ok (.iadd, 1) := by decide +kernel
theorem dX11_lay_111 : decode cX11_lay 111 = .ok (.istore 9, 2) := by decide +kernel
theorem dX11_lay_113 : decode cX11_lay 113 = .ok (.iload_n 1, 1) := by decide +kernel
theorem dX11_lay_114 : decode cX11_lay 114 = .ok (.iload_n 2, 1) := by decide +kernel
theorem dX11_lay_115 : decode cX11_lay 115 = .ok (.if_icmp .ne 22, 3) := by decide +kernel
theorem dX11_lay_118 : decode cX11_lay 118 = .ok (.aload_n 0, 1) := by decide +kernel
theorem dX11_lay_119 : decode cX11_lay 119 = .ok (.getfield 7, 3) := by decide +kernel
theorem dX11_lay_122 : decode cX11_lay 122 = .ok (.iload 4, 2) := by decide +kernel
theorem dX11_lay_124 : decode cX11_lay 124 = .ok (.iaload, 1) := by decide +kernel
theorem dX11_lay_125 : decode cX11_lay 125 = .ok (.iload_n 3, 1) := by decide +kernel
theorem dX11_lay_126 : decode cX11_lay 126 = .ok (.if_icmp .ge 7, 3) := by decide +kernel
theorem dX11_lay_129 : decode cX11_lay 129 = .ok (.iconst 1, 1) := by decide +kernel
theorem dX11_lay_130 : decode cX11_lay 130 = .ok (.goto 36, 3) := by decide +kernel
theorem dX11_lay_133 : decode cX11_lay 133 = .ok (.iconst 0, 1) := by decide +kernel
theorem dX11_lay_134 : decode cX11_lay 134 = .ok (.goto 32, 3) := by decide +kernel
theorem dX11_lay_137 : decode cX11_lay 137 = .ok (.aload_n 0, 1) := by decide +kernel
theorem dX11_lay_138 : decode cX11_lay 138 = .ok (.getfield 7, 3) := by decide +kernel
theorem dX11_lay_141 : decode cX11_lay 141 = .ok (.iload 4, 2) := by decide +kernel
theorem dX11_lay_143 : decode cX11_lay 143 = .ok (.iaload, 1) := by decide +kernel
theorem dX11_lay_144 : decode cX11_lay 144 = .ok (.iload 6, 2) := by decide +kernel
theorem dX11_lay_146 : decode cX11_lay 146 = .ok (.if_icmp .lt 15, 3) := by decide +kernel
theorem dX11_lay_149 : decode cX11_lay 149 = .ok (.aload_n 0, 1) := by decide +kernel
theorem dX11_lay_150 : decode cX11_lay 150 = .ok (.getfield 7, 3) := by decide +kernel
theorem dX11_lay_153 : decode cX11_lay 153 = .ok (.iload 5, 2) := by decide +kernel
theorem dX11_lay_155 : decode cX11_lay 155 = .ok (.iaload, 1) := by decide +kernel
theorem dX11_lay_156 : decode cX11_lay 156 = .ok (.iload 7, 2) := by decide +kernel
theorem dX11_lay_158 : decode cX11_lay 158 = .ok (.if_icmp .ge 7, 3) := by decide +kernel
theorem dX11_lay_161 : decode cX11_lay 161 = .ok (.iconst 1, 1) := by decide +kernel
theorem dX11_lay_162 : decode cX11_lay 162 = .ok (.goto 4, 3) := by decide +kernel
theorem dX11_lay_165 : decode cX11_lay 165 = .ok (.iconst 0, 1) := by decide +kernel
theorem dX11_lay_166 : decode cX11_lay 166 = .ok (.istore 10, 2) := by decide +kernel
theorem dX11_lay_168 : decode cX11_lay 168 = .ok (.iload 10, 2) := by decide +kernel
theorem dX11_lay_170 : decode cX11_lay 170 = .ok (.ifCond .ne 29, 3) := by decide +kernel
theorem dX11_lay_173 : decode cX11_lay 173 = .ok (.aload_n 0, 1) := by decide +kernel
theorem dX11_lay_174 : decode cX11_lay 174 = .ok (.invokevirtual 55, 3) := by decide +kernel
theorem dX11_lay_177 : decode cX11_lay 177 = .ok (.iload 8, 2) := by decide +kernel
theorem dX11_lay_179 : decode cX11_lay 179 = .ok (.if_icmp .lt 20, 3) := by decide +kernel
theorem dX11_lay_182 : decode cX11_lay 182 = .ok (.bipush 100, 2) := by decide +kernel
theorem dX11_lay_184 : decode cX11_lay 184 = .ok (.iload 9, 2) := by decide +kernel
theorem dX11_lay_186 : decode cX11_lay 186 = .ok (.imul, 1) := by decide +kernel
theorem dX11_lay_187 : decode cX11_lay 187 = .ok (.aload_n 0, 1) := by decide +kernel
theorem dX11_lay_188 : decode cX11_lay 188 = .ok (.getfield 7, 3) := by decide +kernel
theorem dX11_lay_191 : decode cX11_lay 191 = .ok (.bipush 6, 2) := by decide +kernel
theorem dX11_lay_193 : decode cX11_lay 193 = .ok (.iaload, 1) := by decide +kernel
theorem dX11_lay_194 : decode cX11_lay 194 = .ok (.iload_n 3, 1) := by decide +kernel
theorem dX11_lay_195 : decode cX11_lay 195 = .ok (.imul, 1) := by decide +kernel
theorem dX11_lay_196 : decode cX11_lay 196 = .ok (.if_icmp .le 5, 3) := by decide +kernel
theorem dX11_lay_199 : decode cX11_lay 199 = .ok (.iconst (-1), 1) := by decide +kernel
theorem dX11_lay_200 : decode cX11_lay 200 = .ok (.ireturn, 1) := by decide +kernel
theorem dX11_lay_201 : decode cX11_lay 201 = .ok (.bipush 50, 2) := by decide +kernel
theorem dX11_lay_203 : decode cX11_lay 203 = .ok (.bipush 8, 2) := by decide +kernel
theorem dX11_lay_205 : decode cX11_lay 205 = .ok (.aload_n 0, 1) := by decide +kernel
theorem dX11_lay_206 : decode cX11_lay 206 = .ok (.getfield 7, 3) := by decide +kernel
theorem dX11_lay_209 : decode cX11_lay 209 = .ok (.iconst 2, 1) := by decide +kernel
theorem dX11_lay_210 : decode cX11_lay 210 = .ok (.iaload, 1) := by decide +kernel
theorem dX11_lay_211 : decode cX11_lay 211 = .ok (.imul, 1) := by decide +kernel
theorem dX11_lay_212 : decode cX11_lay 212 = .ok (.iadd, 1) := by decide +kernel
theorem dX11_lay_213 : decode cX11_lay 213 = .ok (.istore 11, 2) := by decide +kernel
theorem dX11_lay_215 : decode cX11_lay 215 = .ok (.aload_n 0, 1) := by decide +kernel
theorem dX11_lay_216 : decode cX11_lay 216 = .ok (.getfield 7, 3) := by decide +kernel
theorem dX11_lay_219 : decode cX11_lay 219 = .ok (.iload 11, 2) := by decide +kernel
theorem dX11_lay_221 : decode cX11_lay 221 = .ok (.iload_n 3, 1) := by decide +kernel
theorem dX11_lay_222 : decode cX11_lay 222 = .ok (.iastore, 1) := by decide +kernel
theorem dX11_lay_223 : decode cX11_lay 223 = .ok (.aload_n 0, 1) := by decide +kernel
theorem dX11_lay_224 : decode cX11_lay 224 = .ok (.getfield 7, 3) := by decide +kernel
theorem dX11_lay_227 : decode cX11_lay 227 = .ok (.iload 11, 2) := by decide +kernel
theorem dX11_lay_229 : decode cX11_lay 229 = .ok (.iconst 1, 1) := by decide +kernel
theorem dX11_lay_230 : decode cX11_lay 230 = .ok (.iadd, 1) := by decide +kernel
theorem dX11_lay_231 : decode cX11_lay 231 = .ok (.iload 8, 2) := by decide +kernel
theorem dX11_lay_233 : decode cX11_lay 233 = .ok (.iastore, 1) := by decide +kernel
theorem dX11_lay_234 : decode cX11_lay 234 = .ok (.aload_n 0, 1) := by decide +kernel
theorem dX11_lay_235 : decode cX11_lay 235 = .ok (.getfield 7, 3) := by decide +kernel
theorem dX11_lay_238 : decode cX11_lay 238 = .ok (.iload 11, 2) := by decide +kernel
theorem dX11_lay_240 : decode cX11_lay 240 = .ok (.iconst 2, 1) := by decide +kernel
theorem dX11_lay_241 : decode cX11_lay 241 = .ok (.iadd, 1) := by decide +kernel
theorem dX11_lay_242 : decode cX11_lay 242 = .ok (.iload 6, 2) := by decide +kernel
theorem dX11_lay_244 : decode cX11_lay 244 = .ok (.aload_n 0, 1) := by decide +kernel
theorem dX11_lay_245 : decode cX11_lay 245 = .ok (.getfield 7, 3) := by decide +kernel
theorem dX11_lay_248 : decode cX11_lay 248 = .ok (.iload 4, 2) := by decide +kernel
theorem dX11_lay_250 : decode cX11_lay 250 = .ok (.iconst 1, 1) := by decide +kernel
theorem dX11_lay_251 : decode cX11_lay 251 = .ok (.iadd, 1) := by decide +kernel
theorem dX11_lay_252 : decode cX11_lay 252 = .ok (.iaload, 1) := by decide +kernel
theorem dX11_lay_253 : decode cX11_lay 253 = .ok (.imul, 1) := by decide +kernel
theorem dX11_lay_254 : decode cX11_lay 254 = .ok (.iload 7, 2) := by decide +kernel
theorem dX11_lay_256 : decode cX11_lay 256 = .ok (.aload_n 0, 1) := by decide +kernel
theorem dX11_lay_257 : decode cX11_lay 257 = .ok (.getfield 7, 3) := by decide +kernel
theorem dX11_lay_260 : decode cX11_lay 260 = .ok (.iload 5, 2) := by decide +kernel
theorem dX11_lay_262 : decode cX11_lay 262 = .ok (.iconst 1, 1) := by decide +kernel
theorem dX11_lay_263 : decode cX11_lay 263 = .ok (.iadd, 1) := by decide +kernel
theorem dX11_lay_264 : decode cX11_lay 264 = .ok (.iaload, 1) := by decide +kernel
theorem dX11_lay_265 : decode cX11_lay 265 = .ok (.imul, 1) := by decide +kernel
theorem dX11_lay_266 : decode cX11_lay 266 = .ok (.iadd, 1) := by decide +kernel
theorem dX11_lay_267 : decode cX11_lay 267 = .ok (.iload_n 3, 1) := by decide +kernel
theorem dX11_lay_268 : decode cX11_lay 268 = .ok (.idiv, 1) := by decide +kernel
theorem dX11_lay_269 : decode cX11_lay 269 = .ok (.iastore, 1) := by decide +kernel
theorem dX11_lay_270 : decode cX11_lay 270 = .ok (.aload_n 0, 1) := by decide +kernel
theorem dX11_lay_271 : decode cX11_lay 271 = .ok (.getfield 7, 3) := by decide +kernel
theorem dX11_lay_274 : decode cX11_lay 274 = .ok (.iload 11, 2) := by decide +kernel
theorem dX11_lay_276 : decode cX11_lay 276 = .ok (.iconst 3, 1) := by decide +kernel
theorem dX11_lay_277 : decode cX11_lay 277 = .ok (.iadd, 1) := by decide +kernel
theorem dX11_lay_278 : decode cX11_lay 278 = .ok (.iload 9, 2) := by decide +kernel
theorem dX11_lay_280 : decode cX11_lay 280 = .ok (.iastore, 1) := by decide +kernel
theorem dX11_lay_281 : decode cX11_lay 281 = .ok (.aload_n 0, 1) := by decide +kernel
theorem dX11_lay_282 : decode cX11_lay 282 = .ok (.getfield 7, 3) := by decide +kernel
theorem dX11_lay_285 : decode cX11_lay 285 = .ok (.iload 11, 2) := by decide +kernel
theorem dX11_lay_287 : decode cX11_lay 287 = .ok (.iconst 4, 1) := by decide +kernel
theorem dX11_lay_288 : decode cX11_lay 288 = .ok (.iadd, 1) := by decide +kernel
theorem dX11_lay_289 : decode cX11_lay 289 = .ok (.iload_n 1, 1) := by decide +kernel
theorem dX11_lay_290 : decode cX11_lay 290 = .ok (.iastore, 1) := by decide +kernel
theorem dX11_lay_291 : decode cX11_lay 291 = .ok (.aload_n 0, 1) := by decide +kernel
theorem dX11_lay_292 : decode cX11_lay 292 = .ok (.getfield 7, 3) := by decide +kernel
theorem dX11_lay_295 : decode cX11_lay 295 = .ok (.iload 11, 2) := by decide +kernel
theorem dX11_lay_297 : decode cX11_lay 297 = .ok (.iconst 5, 1) := by decide +kernel
theorem dX11_lay_298 : decode cX11_lay 298 = .ok (.iadd, 1) := by decide +kernel
theorem dX11_lay_299 : decode cX11_lay 299 = .ok (.iload_n 2, 1) := by decide +kernel
theorem dX11_lay_300 : decode cX11_lay 300 = .ok (.iastore, 1) := by decide +kernel
theorem dX11_lay_301 : decode cX11_lay 301 = .ok (.aload_n 0, 1) := by decide +kernel
theorem dX11_lay_302 : decode cX11_lay 302 = .ok (.getfield 7, 3) := by decide +kernel
theorem dX11_lay_305 : decode cX11_lay 305 = .ok (.iload 11, 2) := by decide +kernel
theorem dX11_lay_307 : decode cX11_lay 307 = .ok (.bipush 6, 2) := by decide +kernel
theorem dX11_lay_309 : decode cX11_lay 309 = .ok (.iadd, 1) := by decide +kernel
theorem dX11_lay_310 : decode cX11_lay 310 = .ok (.aload_n 0, 1) := by decide +kernel
theorem dX11_lay_311 : decode cX11_lay 311 = .ok (.iload 8, 2) := by decide +kernel
theorem dX11_lay_313 : decode cX11_lay 313 = .ok (.invokevirtual 59, 3) := by decide +kernel
theorem dX11_lay_316 : decode cX11_lay 316 = .ok (.iastore, 1) := by decide +kernel
theorem dX11_lay_317 : decode cX11_lay 317 = .ok (.aload_n 0, 1) := by decide +kernel
theorem dX11_lay_318 : decode cX11_lay 318 = .ok (.getfield 7, 3) := by decide +kernel
theorem dX11_lay_321 : decode cX11_lay 321 = .ok (.iload 11, 2) := by decide +kernel
theorem dX11_lay_323 : decode cX11_lay 323 = .ok (.bipush 7, 2) := by decide +kernel
theorem dX11_lay_325 : decode cX11_lay 325 = .ok (.iadd, 1) := by decide +kernel
theorem dX11_lay_326 : decode cX11_lay 326 = .ok (.iconst (-1), 1) := by decide +kernel
theorem dX11_lay_327 : decode cX11_lay 327 = .ok (.iastore, 1) := by decide +kernel
theorem dX11_lay_328 : decode cX11_lay 328 = .ok (.aload_n 0, 1) := by decide +kernel
theorem dX11_lay_329 : decode cX11_lay 329 = .ok (.getfield 7, 3) := by decide +kernel
theorem dX11_lay_332 : decode cX11_lay 332 = .ok (.iload 4, 2) := by decide +kernel
theorem dX11_lay_334 : decode cX11_lay 334 = .ok (.dup2, 1) := by decide +kernel
theorem dX11_lay_335 : decode cX11_lay 335 = .ok (.iaload, 1) := by decide +kernel
theorem dX11_lay_336 : decode cX11_lay 336 = .ok (.iload 6, 2) := by decide +kernel
theorem dX11_lay_338 : decode cX11_lay 338 = .ok (.isub, 1) := by decide +kernel
theorem dX11_lay_339 : decode cX11_lay 339 = .ok (.iastore, 1) := by decide +kernel
theorem dX11_lay_340 : decode cX11_lay 340 = .ok (.aload_n 0, 1) := by decide +kernel
theorem dX11_lay_341 : decode cX11_lay 341 = .ok (.getfield 7, 3) := by decide +kernel
theorem dX11_lay_344 : decode cX11_lay 344 = .ok (.iload 5, 2) := by decide +kernel
theorem dX11_lay_346 : decode cX11_lay 346 = .ok (.dup2, 1) := by decide +kernel
theorem dX11_lay_347 : decode cX11_lay 347 = .ok (.iaload, 1) := by decide +kernel
theorem dX11_lay_348 : decode cX11_lay 348 = .ok (.iload 7, 2) := by decide +kernel
theorem dX11_lay_350 : decode cX11_lay 350 = .ok (.isub, 1) := by decide +kernel
theorem dX11_lay_351 : decode cX11_lay 351 = .ok (.iastore, 1) := by decide +kernel
theorem dX11_lay_352 : decode cX11_lay 352 = .ok (.aload_n 0, 1) := by decide +kernel
theorem dX11_lay_353 : decode cX11_lay 353 = .ok (.getfield 7, 3) := by decide +kernel
theorem dX11_lay_356 : decode cX11_lay 356 = .ok (.iconst 2, 1) := by decide +kernel
theorem dX11_lay_357 : decode cX11_lay 357 = .ok (.dup2, 1) := by decide +kernel
theorem dX11_lay_358 : decode cX11_lay 358 = .ok (.iaload, 1) := by decide +kernel
theorem dX11_lay_359 : decode cX11_lay 359 = .ok (.iconst 1, 1) := by decide +kernel
theorem dX11_lay_360 : decode cX11_lay 360 = .ok (.iadd, 1) := by decide +kernel
theorem dX11_lay_361 : decode cX11_lay 361 = .ok (.iastore, 1) := by decide +kernel
theorem dX11_lay_362 : decode cX11_lay 362 = .ok (.aload_n 0, 1) := by decide +kernel
theorem dX11_lay_363 : decode cX11_lay 363 = .ok (.getfield 7, 3) := by decide +kernel
theorem dX11_lay_366 : decode cX11_lay 366 = .ok (.iconst 2, 1) := by decide +kernel
theorem dX11_lay_367 : decode cX11_lay 367 = .ok (.iaload, 1) := by decide +kernel
theorem dX11_lay_368 : decode cX11_lay 368 = .ok (.iconst 1, 1) := by decide +kernel
theorem dX11_lay_369 : decode cX11_lay 369 = .ok (.isub, 1) := by decide +kernel
theorem dX11_lay_370 : decode cX11_lay 370 = .ok (.ireturn, 1) := by decide +kernel
theorem dX11_mat_0 : decode cX11_mat 0 = .ok (.aload_n 0, 1) := by decide +kernel
theorem dX11_mat_1 : decode cX11_mat 1 = .ok (.iload_n 1, 1) := by decide +kernel
theorem dX11_mat_2 : decode cX11_mat 2 = .ok (.iconst 2, 1) := by decide +kernel
theorem dX11_mat_3 : decode cX11_mat 3 = .ok (.invokevirtual 42, 3) := by decide +kernel
theorem dX11_mat_6 : decode cX11_mat 6 = .ok (.ifCond .eq 30, 3) := by decide +kernel
theorem dX11_mat_9 : decode cX11_mat 9 = .ok (.iload_n 2, 1) := by decide +kernel
theorem dX11_mat_10 : decode cX11_mat 10 = .ok (.iconst 0, 1) := by decide +kernel
theorem dX11_mat_11 : decode cX11_mat 11 = .ok (.bipush 7, 2) := by decide +kernel
theorem dX11_mat_13 : decode cX11_mat 13 = .ok (.invokestatic 38, 3) := by decide +kernel
theorem dX11_mat_16 : decode cX11_mat 16 = .ok (.ifCond .eq 20, 3) := by decide +kernel
theorem dX11_mat_19 : decode cX11_mat 19 = .ok (.aload_n 0, 1) := by decide +kernel
theorem dX11_mat_20 : decode cX11_mat 20 = .ok (.getfield 7, 3) := by decide +kernel
theorem dX11_mat_23 : decode cX11_mat 23 = .ok (.bipush 50, 2) := by decide +kernel
theorem dX11_mat_25 : decode cX11_mat 25 = .ok (.bipush 8, 2) := by decide +kernel
theorem dX11_mat_27 : decode cX11_mat 27 = .ok (.iload_n 1, 1) := by decide +kernel
theorem dX11_mat_28 : decode cX11_mat 28 = .ok (.imul, 1) := by decide +kernel
theorem dX11_mat_29 : decode cX11_mat 29 = .ok (.iadd, 1) := by decide +kernel
theorem dX11_mat_30 : decode cX11_mat 30 = .ok (.iload_n 2, 1) := by decide +kernel
theorem dX11_mat_31 : decode cX11_mat 31 = .ok (.iadd, 1) := by decide +kernel
theorem dX11_mat_32 : decode cX11_mat 32 = .ok (.iaload, 1) := by decide +kernel
theorem dX11_mat_33 : decode cX11_mat 33 = .ok (.goto 4, 3) := by decide +kernel
theorem dX11_mat_36 : decode cX11_mat 36 = .ok (.iconst (-1), 1) := by decide +kernel
theorem dX11_mat_37 : decode cX11_mat 37 = .ok (.ireturn, 1) := by decide +kernel
theorem dX11_recall_0 : decode cX11_recall 0 = .ok (.aload_n 0, 1) := by decide +kernel
theorem dX11_recall_1 : decode cX11_recall 1 = .ok (.iload_n 1, 1) := by decide +kernel
theorem dX11_recall_2 : decode cX11_recall 2 = .ok (.iconst 1, 1) := by decide +kernel
theorem dX11_recall_3 : decode cX11_recall 3 = .ok (.invokevirtual 42, 3) := by decide +kernel
theorem dX11_recall_6 : decode cX11_recall 6 = .ok (.ifCond .ne 5, 3) := by decide +kernel
theorem dX11_recall_9 : decode cX11_recall 9 = .ok (.iconst (-1), 1) := by decide +kernel
theorem dX11_recall_10 : decode cX11_recall 10 = .ok (.ireturn, 1) := by decide +kernel
theorem dX11_recall_11 : decode cX11_recall 11 = .ok (.iconst 0, 1) := by decide +kernel
theorem dX11_recall_12 : decode cX11_recall 12 = .ok (.istore_n 2, 1) := by decide +kernel
theorem dX11_recall_13 : decode cX11_recall 13 = .ok (.iconst 0, 1) := by decide +kernel
theorem dX11_recall_14 : decode cX11_recall 14 = .ok (.istore_n 3, 1) := by decide +kernel
theorem dX11_recall_15 : decode cX11_recall 15 = .ok (.iload_n 3, 1) := by decide +kernel
theorem dX11_recall_16 : decode cX11_recall 16 = .ok (.aload_n 0, 1) := by decide +kernel
theorem dX11_recall_17 : decode cX11_recall 17 = .ok (.getfield 7, 3) := by decide +kernel
theorem dX11_recall_20 : decode cX11_recall 20 = .ok (.iconst 2, 1) := by decide +kernel
theorem dX11_recall_21 : decode cX11_recall 21 = .ok (.iaload, 1) := by decide +kernel
theorem dX11_recall_22 : decode cX11_recall 22 = .ok (.if_icmp .ge 33, 3) := by decide +kernel
theorem dX11_recall_25 : decode cX11_recall 25 = .ok (.iload_n 2, 1) := by decide +kernel
theorem dX11_recall_26 : decode cX11_recall 26 = .ok (.aload_n 0, 1) := by decide +kernel
theorem dX11_recall_27 : decode cX11_recall 27 = .ok (.getfield 7, 3) := by decide +kernel
theorem dX11_recall_30 : decode cX11_recall 30 = .ok (.bipush 50, 2) := by decide +kernel
theorem dX11_recall_32 : decode cX11_recall 32 = .ok (.bipush 8, 2) := by decide +kernel
theorem dX11_recall_34 : decode cX11_recall 34 = .ok (.iload_n 3, 1) := by decide +kernel
theorem dX11_recall_35 : decode cX11_recall 35 = .ok (.imul, 1) := by decide +kernel
theorem dX11_recall_36 : decode cX11_recall 36 = .ok (.iadd, 1) := by decide +kernel
theorem dX11_recall_37 : decode cX11_recall 37 = .ok (.bipush 6, 2) := by decide +kernel
theorem dX11_recall_39 : decode cX11_recall 39 = .ok (.iadd, 1) := by decide +kernel
theorem dX11_recall_40 : decode cX11_recall 40 = .ok (.iaload, 1) := by decide +kernel
theorem dX11_recall_41 : decode cX11_recall 41 = .ok (.iload_n 1, 1) := by decide +kernel
theorem dX11_recall_42 : decode cX11_recall 42 = .ok (.ishr, 1) := by decide +kernel
theorem dX11_recall_43 : decode cX11_recall 43 = .ok (.iconst 1, 1) := by decide +kernel
theorem dX11_recall_44 : decode cX11_recall 44 = .ok (.iand, 1) := by decide +kernel
theorem dX11_recall_45 : decode cX11_recall 45 = .ok (.iload_n 3, 1) := by decide +kernel
theorem dX11_recall_46 : decode cX11_recall 46 = .ok (.ishl, 1) := by decide +kernel
theorem dX11_recall_47 : decode cX11_recall 47 = .ok (.ior, 1) := by decide +kernel
theorem dX11_recall_48 : decode cX11_recall 48 = .ok (.istore_n 2, 1) := by decide +kernel
theorem dX11_recall_49 : decode cX11_recall 49 = .ok (.iinc 3 1, 3) := by decide +kernel
theorem dX11_recall_52 : decode cX11_recall 52 = .ok (.goto (-37), 3) := by decide +kernel
theorem dX11_recall_55 : decode cX11_recall 55 = .ok (.iload_n 2, 1) := by decide +kernel
theorem dX11_recall_56 : decode cX11_recall 56 = .ok (.ireturn, 1) := by decide +kernel
theorem dX11_plate_0 : decode cX11_plate 0 = .ok (.aload_n 0, 1) := by decide +kernel
theorem dX11_plate_1 : decode cX11_plate 1 = .ok (.getfield 7, 3) := by decide +kernel
theorem dX11_plate_4 : decode cX11_plate 4 = .ok (.iconst 3, 1) := by decide +kernel
theorem dX11_plate_5 : decode cX11_plate 5 = .ok (.iaload, 1) := by decide +kernel
theorem dX11_plate_6 : decode cX11_plate 6 = .ok (.iconst 4, 1) := by decide +kernel
theorem dX11_plate_7 : decode cX11_plate 7 = .ok (.if_icmp .eq 15, 3) := by decide +kernel
theorem dX11_plate_10 : decode cX11_plate 10 = .ok (.iload_n 1, 1) := by decide +kernel
theorem dX11_plate_11 : decode cX11_plate 11 = .ok (.bipush 100, 2) := by decide +kernel
theorem dX11_plate_13 : decode cX11_plate 13 = .ok (.sipush 250, 3) := by decide +kernel
theorem dX11_plate_16 : decode cX11_plate 16 = .ok (.invokestatic 38, 3) := by decide +kernel
theorem dX11_plate_19 : decode cX11_plate 19 = .ok (.ifCond .ne 5, 3) := by decide +kernel
theorem dX11_plate_22 : decode cX11_plate 22 = .ok (.iconst (-1), 1) := by decide +kernel
theorem dX11_plate_23 : decode cX11_plate 23 = .ok (.ireturn, 1) := by decide +kernel
theorem dX11_plate_24 : decode cX11_plate 24 = .ok (.aload_n 0, 1) := by decide +kernel
theorem dX11_plate_25 : decode cX11_plate 25 = .ok (.getfield 7, 3) := by decide +kernel
theorem dX11_plate_28 : decode cX11_plate 28 = .ok (.bipush 40, 2) := by decide +kernel
theorem dX11_plate_30 : decode cX11_plate 30 = .ok (.aload_n 0, 1) := by decide +kernel
theorem dX11_plate_31 : decode cX11_plate 31 = .ok (.getfield 7, 3) := by decide +kernel
theorem dX11_plate_34 : decode cX11_plate 34 = .ok (.iconst 3, 1) := by decide +kernel
theorem dX11_plate_35 : decode cX11_plate 35 = .ok (.iaload, 1) := by decide +kernel
theorem dX11_plate_36 : decode cX11_plate 36 = .ok (.iadd, 1) := by decide +kernel
theorem dX11_plate_37 : decode cX11_plate 37 = .ok (.iload_n 1, 1) := by decide +kernel
theorem dX11_plate_38 : decode cX11_plate 38 = .ok (.iastore, 1) := by decide +kernel
theorem dX11_plate_39 : decode cX11_plate 39 = .ok (.aload_n 0, 1) := by decide +kernel
theorem dX11_plate_40 : decode cX11_plate 40 = .ok (.getfield 7, 3) := by decide +kernel
theorem dX11_plate_43 : decode cX11_plate 43 = .ok (.iconst 3, 1) := by decide +kernel
theorem dX11_plate_44 : decode cX11_plate 44 = .ok (.dup2, 1) := by decide +kernel
theorem dX11_plate_45 : decode cX11_plate 45 = .ok (.iaload, 1) := by decide +kernel
theorem dX11_plate_46 : decode cX11_plate 46 = .ok (.iconst 1, 1) := by decide +kernel
theorem dX11_plate_47 : decode cX11_plate 47 = .ok (.iadd, 1) := by decide +kernel
theorem dX11_plate_48 : decode cX11_plate 48 = .ok (.iastore, 1) := by decide +kernel
theorem dX11_plate_49 : decode cX11_plate 49 = .ok (.aload_n 0, 1) := by decide +kernel
theorem dX11_plate_50 : decode cX11_plate 50 = .ok (.getfield 7, 3) := by decide +kernel
theorem dX11_plate_53 : decode cX11_plate 53 = .ok (.iconst 3, 1) := by decide +kernel
theorem dX11_plate_54 : decode cX11_plate 54 = .ok (.iaload, 1) := by decide +kernel
theorem dX11_plate_55 : decode cX11_plate 55 = .ok (.iconst 1, 1) := by decide +kernel
theorem dX11_plate_56 : decode cX11_plate 56 = .ok (.isub, 1) := by decide +kernel
theorem dX11_plate_57 : decode cX11_plate 57 = .ok (.ireturn, 1) := by decide +kernel
theorem dX11_cold_0 : decode cX11_cold 0 = .ok (.iconst 0, 1) := by decide +kernel
theorem dX11_cold_1 : decode cX11_cold 1 = .ok (.istore_n 1, 1) := by decide +kernel
theorem dX11_cold_2 : decode cX11_cold 2 = .ok (.iload_n 1, 1) := by decide +kernel
theorem dX11_cold_3 : decode cX11_cold 3 = .ok (.bipush 9, 2) := by decide +kernel
theorem dX11_cold_5 : decode cX11_cold 5 = .ok (.if_icmp .ge 25, 3) := by decide +kernel
theorem dX11_cold_8 : decode cX11_cold 8 = .ok (.aload_n 0, 1) := by decide +kernel
theorem dX11_cold_9 : decode cX11_cold 9 = .ok (.getfield 17, 3) := by decide +kernel
theorem dX11_cold_12 : decode cX11_cold 12 = .ok (.iload_n 1, 1) := by decide +kernel
theorem dX11_cold_13 : decode cX11_cold 13 = .ok (.sipush 2000, 3) := by decide +kernel
theorem dX11_cold_16 : decode cX11_cold 16 = .ok (.iastore, 1) := by decide +kernel
theorem dX11_cold_17 : decode cX11_cold 17 = .ok (.aload_n 0, 1) := by decide +kernel
theorem dX11_cold_18 : decode cX11_cold 18 = .ok (.getfield 23, 3) := by decide +kernel
theorem dX11_cold_21 : decode cX11_cold 21 = .ok (.iload_n 1, 1) := by decide +kernel
theorem dX11_cold_22 : decode cX11_cold 22 = .ok (.iconst 0, 1) := by decide +kernel
theorem dX11_cold_23 : decode cX11_cold 23 = .ok (.iastore, 1) := by decide +kernel
theorem dX11_cold_24 : decode cX11_cold 24 = .ok (.iinc 1 1, 3) := by decide +kernel
theorem dX11_cold_27 : decode cX11_cold 27 = .ok (.goto (-25), 3) := by decide +kernel
theorem dX11_cold_30 : decode cX11_cold 30 = .ok (.return_, 1) := by decide +kernel
theorem dX11_tick_0 : decode cX11_tick 0 = .ok (.bipush 100, 2) := by decide +kernel
theorem dX11_tick_2 : decode cX11_tick 2 = .ok (.aload_n 0, 1) := by decide +kernel
theorem dX11_tick_3 : decode cX11_tick 3 = .ok (.getfield 7, 3) := by decide +kernel
theorem dX11_tick_6 : decode cX11_tick 6 = .ok (.bipush 40, 2) := by decide +kernel
theorem dX11_tick_8 : decode cX11_tick 8 = .ok (.iload_n 1, 1) := by decide +kernel
theorem dX11_tick_9 : decode cX11_tick 9 = .ok (.iadd, 1) := by decide +kernel
theorem dX11_tick_10 : decode cX11_tick 10 = .ok (.iaload, 1) := by decide +kernel
theorem dX11_tick_11 : decode cX11_tick 11 = .ok (.imul, 1) := by decide +kernel
theorem dX11_tick_12 : decode cX11_tick 12 = .ok (.istore_n 2, 1) := by decide +kernel
theorem dX11_tick_13 : decode cX11_tick 13 = .ok (.iconst 0, 1) := by decide +kernel
theorem dX11_tick_14 : decode cX11_tick 14 = .ok (.istore_n 3, 1) := by decide +kernel
theorem dX11_tick_15 : decode cX11_tick 15 = .ok (.iload_n 3, 1) := by decide +kernel
theorem dX11_tick_16 : decode cX11_tick 16 = .ok (.bipush 9, 2) := by decide +kernel
theorem dX11_tick_18 : decode cX11_tick 18 = .ok (.if_icmp .ge 21, 3) := by decide +kernel
theorem dX11_tick_21 : decode cX11_tick 21 = .ok (.aload_n 0, 1) := by decide +kernel
theorem dX11_tick_22 : decode cX11_tick 22 = .ok (.getfield 20, 3) := by decide +kernel
theorem dX11_tick_25 : decode cX11_tick 25 = .ok (.iload_n 3, 1) := by decide +kernel
theorem dX11_tick_26 : decode cX11_tick 26 = .ok (.aload_n 0, 1) := by decide +kernel
theorem dX11_tick_27 : decode cX11_tick 27 = .ok (.getfield 17, 3) := by decide +kernel
theorem dX11_tick_30 : decode cX11_tick 30 = .ok (.iload_n 3, 1) := by decide +kernel
theorem dX11_tick_31 : decode cX11_tick 31 = .ok (.iaload, 1) := by decide +kernel
theorem dX11_tick_32 : decode cX11_tick 32 = .ok (.iastore, 1) := by decide +kernel
theorem dX11_tick_33 : decode cX11_tick 33 = .ok (.iinc 3 1, 3) := by decide +kernel
theorem dX11_tick_36 : decode cX11_tick 36 = .ok (.goto (-21), 3) := by decide +kernel
theorem dX11_tick_39 : decode cX11_tick 39 = .ok (.iconst 0, 1) := by decide +kernel
theorem dX11_tick_40 : decode cX11_tick 40 = .ok (.istore_n 3, 1) := by decide +kernel
theorem dX11_tick_41 : decode cX11_tick 41 = .ok (.iload_n 3, 1) := by decide +kernel
theorem dX11_tick_42 : decode cX11_tick 42 = .ok (.bipush 9, 2) := by decide +kernel
theorem dX11_tick_44 : decode cX11_tick 44 = .ok (.if_icmp .ge 107, 3) := by decide +kernel
theorem dX11_tick_47 : decode cX11_tick 47 = .ok (.iload_n 3, 1) := by decide +kernel
theorem dX11_tick_48 : decode cX11_tick 48 = .ok (.ifCond .ne 7, 3) := by decide +kernel
theorem dX11_tick_51 : decode cX11_tick 51 = .ok (.iload_n 2, 1) := by decide +kernel
theorem dX11_tick_52 : decode cX11_tick 52 = .ok (.goto 11, 3) := by decide +kernel
theorem dX11_tick_55 : decode cX11_tick 55 = .ok (.aload_n 0, 1) := by decide +kernel
theorem dX11_tick_56 : decode cX11_tick 56 = .ok (.getfield 20, 3) := by decide +kernel
theorem dX11_tick_59 : decode cX11_tick 59 = .ok (.iload_n 3, 1) := by decide +kernel
theorem dX11_tick_60 : decode cX11_tick 60 = .ok (.iconst 1, 1) := by decide +kernel
theorem dX11_tick_61 : decode cX11_tick 61 = .ok (.isub, 1) := by decide +kernel
theorem dX11_tick_62 : decode cX11_tick 62 = .ok (.iaload, 1) := by decide +kernel
theorem dX11_tick_63 : decode cX11_tick 63 = .ok (.istore 4, 2) := by decide +kernel
theorem dX11_tick_65 : decode cX11_tick 65 = .ok (.iload_n 3, 1) := by decide +kernel
theorem dX11_tick_66 : decode cX11_tick 66 = .ok (.bipush 8, 2) := by decide +kernel
theorem dX11_tick_68 : decode cX11_tick 68 = .ok (.if_icmp .ne 7, 3) := by decide +kernel
theorem dX11_tick_71 : decode cX11_tick 71 = .ok (.iload_n 2, 1) := by decide +kernel
theorem dX11_tick_72 : decode cX11_tick 72 = .ok (.goto 11, 3) := by decide +kernel
theorem dX11_tick_75 : decode cX11_tick 75 = .ok (.aload_n 0, 1) := by decide +kernel
theorem dX11_tick_76 : decode cX11_tick 76 = .ok (.getfield 20, 3) := by decide +kernel
theorem dX11_tick_79 : decode cX11_tick 79 = .ok (.iload_n 3, 1) := by decide +kernel
theorem dX11_tick_80 : decode cX11_tick 80 = .ok (.iconst 1, 1) := by decide +kernel
theorem dX11_tick_81 : decode cX11_tick 81 = .ok (.iadd, 1) := by decide +kernel
theorem dX11_tick_82 : decode cX11_tick 82 = .ok (.iaload, 1) := by decide +kernel
theorem dX11_tick_83 : decode cX11_tick 83 = .ok (.istore 5, 2) := by decide +kernel
theorem dX11_tick_85 : decode cX11_tick 85 = .ok (.aload_n 0, 1) := by decide +kernel
theorem dX11_tick_86 : decode cX11_tick 86 = .ok (.getfield 17, 3) := by decide +kernel
theorem dX11_tick_89 : decode cX11_tick 89 = .ok (.iload_n 3, 1) := by decide +kernel
theorem dX11_tick_90 : decode cX11_tick 90 = .ok (.dup2, 1) := by decide +kernel
theorem dX11_tick_91 : decode cX11_tick 91 = .ok (.iaload, 1) := by decide +kernel
theorem dX11_tick_92 : decode cX11_tick 92 = .ok (.iload 4, 2) := by decide +kernel
theorem dX11_tick_94 : decode cX11_tick 94 = .ok (.iload 5, 2) := by decide +kernel
theorem dX11_tick_96 : decode cX11_tick 96 = .ok (.iadd, 1) := by decide +kernel
theorem dX11_tick_97 : decode cX11_tick 97 = .ok (.iconst 2, 1) := by decide +kernel
theorem dX11_tick_98 : decode cX11_tick 98 = .ok (.aload_n 0, 1) := by decide +kernel
theorem dX11_tick_99 : decode cX11_tick 99 = .ok (.getfield 20, 3) := by decide +kernel
theorem dX11_tick_102 : decode cX11_tick 102 = .ok (.iload_n 3, 1) := by decide +kernel
theorem dX11_tick_103 : decode cX11_tick 103 = .ok (.iaload, 1) := by decide +kernel
theorem dX11_tick_104 : decode cX11_tick 104 = .ok (.imul, 1) := by decide +kernel
theorem dX11_tick_105 : decode cX11_tick 105 = .ok (.isub, 1) := by decide +kernel
theorem dX11_tick_106 : decode cX11_tick 106 = .ok (.bipush 8, 2) := by decide +kernel
theorem dX11_tick_108 : decode cX11_tick 108 = .ok (.idiv, 1) := by decide +kernel
theorem dX11_tick_109 : decode cX11_tick 109 = .ok (.iadd, 1) := by decide +kernel
theorem dX11_tick_110 : decode cX11_tick 110 = .ok (.iastore, 1) := by decide +kernel
theorem dX11_tick_111 : decode cX11_tick 111 = .ok (.aload_n 0, 1) := by decide +kernel
theorem dX11_tick_112 : decode cX11_tick 112 = .ok (.getfield 17, 3) := by decide +kernel
theorem dX11_tick_115 : decode cX11_tick 115 = .ok (.iload_n 3, 1) := by decide +kernel
theorem dX11_tick_116 : decode cX11_tick 116 = .ok (.iaload, 1) := by decide +kernel
theorem dX11_tick_117 : decode cX11_tick 117 = .ok (.sipush 8000, 3) := by decide +kernel
theorem dX11_tick_120 : decode cX11_tick 120 = .ok (.if_icmp .le 25, 3) := by decide +kernel
theorem dX11_tick_123 : decode cX11_tick 123 = .ok (.aload_n 0, 1) := by decide +kernel
theorem dX11_tick_124 : decode cX11_tick 124 = .ok (.getfield 23, 3) := by decide +kernel
theorem dX11_tick_127 : decode cX11_tick 127 = .ok (.iload_n 3, 1) := by decide +kernel
theorem dX11_tick_128 : decode cX11_tick 128 = .ok (.dup2, 1) := by decide +kernel
theorem dX11_tick_129 : decode cX11_tick 129 = .ok (.iaload, 1) := by decide +kernel
theorem dX11_tick_130 : decode cX11_tick 130 = .ok (.aload_n 0, 1) := by decide +kernel
theorem dX11_tick_131 : decode cX11_tick 131 = .ok (.getfield 17, 3) := by decide +kernel
theorem dX11_tick_134 : decode cX11_tick 134 = .ok (.iload_n 3, 1) := by decide +kernel
theorem dX11_tick_135 : decode cX11_tick 135 = .ok (.iaload, 1) := by decide +kernel
theorem dX11_tick_136 : decode cX11_tick 136 = .ok (.sipush 8000, 3) := by decide +kernel
theorem dX11_tick_139 : decode cX11_tick 139 = .ok (.isub, 1) := by decide +kernel
theorem dX11_tick_140 : decode cX11_tick 140 = .ok (.bipush 100, 2) := by decide +kernel
theorem dX11_tick_142 : decode cX11_tick 142 = .ok (.idiv, 1) := by decide +kernel
theorem dX11_tick_143 : decode cX11_tick 143 = .ok (.iadd, 1) := by decide +kernel
theorem dX11_tick_144 : decode cX11_tick 144 = .ok (.iastore, 1) := by decide +kernel
theorem dX11_tick_145 : decode cX11_tick 145 = .ok (.iinc 3 1, 3) := by decide +kernel
theorem dX11_tick_148 : decode cX11_tick 148 = .ok (.goto (-107), 3) := by decide +kernel
theorem dX11_tick_151 : decode cX11_tick 151 = .ok (.return_, 1) := by decide +kernel
theorem dX11_steam_0 : decode cX11_steam 0 = .ok (.aload_n 0, 1) := by decide +kernel
theorem dX11_steam_1 : decode cX11_steam 1 = .ok (.getfield 17, 3) := by decide +kernel
theorem dX11_steam_4 : decode cX11_steam 4 = .ok (.iload_n 2, 1) := by decide +kernel
theorem dX11_steam_5 : decode cX11_steam 5 = .ok (.iaload, 1) := by decide +kernel
theorem dX11_steam_6 : decode cX11_steam 6 = .ok (.sipush 10000, 3) := by decide +kernel
theorem dX11_steam_9 : decode cX11_steam 9 = .ok (.if_icmp .le 34, 3) := by decide +kernel
theorem dX11_steam_12 : decode cX11_steam 12 = .ok (.aload_n 0, 1) := by decide +kernel
theorem dX11_steam_13 : decode cX11_steam 13 = .ok (.getfield 17, 3) := by decide +kernel
theorem dX11_steam_16 : decode cX11_steam 16 = .ok (.iload_n 2, 1) := by decide +kernel
theorem dX11_steam_17 : decode cX11_steam 17 = .ok (.iaload, 1) := by decide +kernel
theorem dX11_steam_18 : decode cX11_steam 18 = .ok (.sipush 10000, 3) := by decide +kernel
theorem dX11_steam_21 : decode cX11_steam 21 = .ok (.isub, 1) := by decide +kernel
theorem dX11_steam_22 : decode cX11_steam 22 = .ok (.aload_n 0, 1) := by decide +kernel
theorem dX11_steam_23 : decode cX11_steam 23 = .ok (.getfield 7, 3) := by decide +kernel
theorem dX11_steam_26 : decode cX11_steam 26 = .ok (.bipush 50, 2) := by decide +kernel
theorem dX11_steam_28 : decode cX11_steam 28 = .ok (.bipush 8, 2) := by decide +kernel
theorem dX11_steam_30 : decode cX11_steam 30 = .ok (.iload_n 1, 1) := by decide +kernel
theorem dX11_steam_31 : decode cX11_steam 31 = .ok (.imul, 1) := by decide +kernel
theorem dX11_steam_32 : decode cX11_steam 32 = .ok (.iadd, 1) := by decide +kernel
theorem dX11_steam_33 : decode cX11_steam 33 = .ok (.iconst 2, 1) := by decide +kernel
theorem dX11_steam_34 : decode cX11_steam 34 = .ok (.iadd, 1) := by decide +kernel
theorem dX11_steam_35 : decode cX11_steam 35 = .ok (.iaload, 1) := by decide +kernel
theorem dX11_steam_36 : decode cX11_steam 36 = .ok (.imul, 1) := by decide +kernel
theorem dX11_steam_37 : decode cX11_steam 37 = .ok (.bipush 100, 2) := by decide +kernel
theorem dX11_steam_39 : decode cX11_steam 39 = .ok (.idiv, 1) := by decide +kernel
theorem dX11_steam_40 : decode cX11_steam 40 = .ok (.goto 4, 3) := by decide +kernel
theorem dX11_steam_43 : decode cX11_steam 43 = .ok (.iconst 0, 1) := by decide +kernel
theorem dX11_steam_44 : decode cX11_steam 44 = .ok (.ireturn, 1) := by decide +kernel
theorem dX11_mayOpen_0 : decode cX11_mayOpen 0 = .ok (.iconst 1, 1) := by decide +kernel
theorem dX11_mayOpen_1 : decode cX11_mayOpen 1 = .ok (.istore_n 2, 1) := by decide +kernel
theorem dX11_mayOpen_2 : decode cX11_mayOpen 2 = .ok (.iconst 0, 1) := by decide +kernel
theorem dX11_mayOpen_3 : decode cX11_mayOpen 3 = .ok (.istore_n 3, 1) := by decide +kernel
theorem dX11_mayOpen_4 : decode cX11_mayOpen 4 = .ok (.iload_n 3, 1) := by decide +kernel
theorem dX11_mayOpen_5 : decode cX11_mayOpen 5 = .ok (.bipush 9, 2) := by decide +kernel
theorem dX11_mayOpen_7 : decode cX11_mayOpen 7 = .ok (.if_icmp .ge 50, 3) := by decide +kernel
theorem dX11_mayOpen_10 : decode cX11_mayOpen 10 = .ok (.iload_n 2, 1) := by decide +kernel
theorem dX11_mayOpen_11 : decode cX11_mayOpen 11 = .ok (.ifCond .eq 38, 3) := by decide +kernel
theorem dX11_mayOpen_14 : decode cX11_mayOpen 14 = .ok (.aload_n 0, 1) := by decide +kernel
theorem dX11_mayOpen_15 : decode cX11_mayOpen 15 = .ok (.getfield 23, 3) := by decide +kernel
theorem dX11_mayOpen_18 : decode cX11_mayOpen 18 = .ok (.iload_n 3, 1) := by decide +kernel
theorem dX11_mayOpen_19 : decode cX11_mayOpen 19 = .ok (.iaload, 1) := by decide +kernel
theorem dX11_mayOpen_20 : decode cX11_mayOpen 20 = .ok (.aload_n 0, 1) := by decide +kernel
theorem dX11_mayOpen_21 : decode cX11_mayOpen 21 = .ok (.getfield 7, 3) := by decide +kernel
theorem dX11_mayOpen_24 : decode cX11_mayOpen 24 = .ok (.bipush 7, 2) := by decide +kernel
theorem dX11_mayOpen_26 : decode cX11_mayOpen 26 = .ok (.iaload, 1) := by decide +kernel
theorem dX11_mayOpen_27 : decode cX11_mayOpen 27 = .ok (.if_icmp .lt 22, 3) := by decide +kernel
theorem dX11_mayOpen_30 : decode cX11_mayOpen 30 = .ok (.aload_n 0, 1) := by decide +kernel
theorem dX11_mayOpen_31 : decode cX11_mayOpen 31 = .ok (.iload_n 1, 1) := by decide +kernel
theorem dX11_mayOpen_32 : decode cX11_mayOpen 32 = .ok (.iload_n 3, 1) := by decide +kernel
theorem dX11_mayOpen_33 : decode cX11_mayOpen 33 = .ok (.invokevirtual 62, 3) := by decide +kernel
theorem dX11_mayOpen_36 : decode cX11_mayOpen 36 = .ok (.aload_n 0, 1) := by decide +kernel
theorem dX11_mayOpen_37 : decode cX11_mayOpen 37 = .ok (.getfield 23, 3) := by decide +kernel
theorem dX11_mayOpen_40 : decode cX11_mayOpen 40 = .ok (.iload_n 3, 1) := by decide +kernel
theorem dX11_mayOpen_41 : decode cX11_mayOpen 41 = .ok (.iaload, 1) := by decide +kernel
theorem dX11_mayOpen_42 : decode cX11_mayOpen 42 = .ok (.if_icmp .gt 7, 3) := by decide +kernel
theorem dX11_mayOpen_45 : decode cX11_mayOpen 45 = .ok (.iconst 1, 1) := by decide +kernel
theorem dX11_mayOpen_46 : decode cX11_mayOpen 46 = .ok (.goto 4, 3) := by decide +kernel
theorem dX11_mayOpen_49 : decode cX11_mayOpen 49 = .ok (.iconst 0, 1) := by decide +kernel
theorem dX11_mayOpen_50 : decode cX11_mayOpen 50 = .ok (.istore_n 2, 1) := by decide +kernel
theorem dX11_mayOpen_51 : decode cX11_mayOpen 51 = .ok (.iinc 3 1, 3) := by decide +kernel
theorem dX11_mayOpen_54 : decode cX11_mayOpen 54 = .ok (.goto (-50), 3) := by decide +kernel
theorem dX11_mayOpen_57 : decode cX11_mayOpen 57 = .ok (.iload_n 2, 1) := by decide +kernel
theorem dX11_mayOpen_58 : decode cX11_mayOpen 58 = .ok (.ireturn, 1) := by decide +kernel
theorem dX11_time_0 : decode cX11_time 0 = .ok (.aload_n 0, 1) := by decide +kernel
theorem dX11_time_1 : decode cX11_time 1 = .ok (.iload_n 1, 1) := by decide +kernel
theorem dX11_time_2 : decode cX11_time 2 = .ok (.iconst 2, 1) := by decide +kernel
theorem dX11_time_3 : decode cX11_time 3 = .ok (.invokevirtual 42, 3) := by decide +kernel
theorem dX11_time_6 : decode cX11_time 6 = .ok (.ifCond .eq 12, 3) := by decide +kernel
theorem dX11_time_9 : decode cX11_time 9 = .ok (.aload_n 0, 1) := by decide +kernel
theorem dX11_time_10 : decode cX11_time 10 = .ok (.iload_n 2, 1) := by decide +kernel
theorem dX11_time_11 : decode cX11_time 11 = .ok (.iconst 3, 1) := by decide +kernel
theorem dX11_time_12 : decode cX11_time 12 = .ok (.invokevirtual 42, 3) := by decide +kernel
theorem dX11_time_15 : decode cX11_time 15 = .ok (.ifCond .ne 5, 3) := by decide +kernel
theorem dX11_time_18 : decode cX11_time 18 = .ok (.iconst (-1), 1) := by decide +kernel
theorem dX11_time_19 : decode cX11_time 19 = .ok (.ireturn, 1) := by decide +kernel
theorem dX11_time_20 : decode cX11_time 20 = .ok (.aload_n 0, 1) := by decide +kernel
theorem dX11_time_21 : decode cX11_time 21 = .ok (.invokevirtual 66, 3) := by decide +kernel
theorem dX11_time_24 : decode cX11_time 24 = .ok (.iconst 1, 1) := by decide +kernel
theorem dX11_time_25 : decode cX11_time 25 = .ok (.istore_n 3, 1) := by decide +kernel
theorem dX11_time_26 : decode cX11_time 26 = .ok (.iload_n 3, 1) := by decide +kernel
theorem dX11_time_27 : decode cX11_time 27 = .ok (.sipush 400, 3) := by decide +kernel
theorem dX11_time_30 : decode cX11_time 30 = .ok (.if_icmp .gt 24, 3) := by decide +kernel
theorem dX11_time_33 : decode cX11_time 33 = .ok (.aload_n 0, 1) := by decide +kernel
theorem dX11_time_34 : decode cX11_time 34 = .ok (.iload_n 2, 1) := by decide +kernel
theorem dX11_time_35 : decode cX11_time 35 = .ok (.invokevirtual 69, 3) := by decide +kernel
theorem dX11_time_38 : decode cX11_time 38 = .ok (.aload_n 0, 1) := by decide +kernel
theorem dX11_time_39 : decode cX11_time 39 = .ok (.iload_n 1, 1) := by decide +kernel
theorem dX11_time_40 : decode cX11_time 40 = .ok (.invokevirtual 73, 3) := by decide +kernel
theorem dX11_time_43 : decode cX11_time 43 = .ok (.ifCond .eq 5, 3) := by decide +kernel
theorem dX11_time_46 : decode cX11_time 46 = .ok (.iload_n 3, 1) := by decide +kernel
theorem dX11_time_47 : decode cX11_time 47 = .ok (.ireturn, 1) := by decide +kernel
theorem dX11_time_48 : decode cX11_time 48 = .ok (.iinc 3 1, 3) := by decide +kernel
theorem dX11_time_51 : decode cX11_time 51 = .ok (.goto (-25), 3) := by decide +kernel
theorem dX11_time_54 : decode cX11_time 54 = .ok (.iconst (-1), 1) := by decide +kernel
theorem dX11_time_55 : decode cX11_time 55 = .ok (.ireturn, 1) := by decide +kernel
theorem dX11_fastest_0 : decode cX11_fastest 0 = .ok (.iconst (-1), 1) := by decide +kernel
theorem dX11_fastest_1 : decode cX11_fastest 1 = .ok (.istore_n 2, 1) := by decide +kernel
theorem dX11_fastest_2 : decode cX11_fastest 2 = .ok (.sipush 401, 3) := by decide +kernel
theorem dX11_fastest_5 : decode cX11_fastest 5 = .ok (.istore_n 3, 1) := by decide +kernel
theorem dX11_fastest_6 : decode cX11_fastest 6 = .ok (.iconst 0, 1) := by decide +kernel
theorem dX11_fastest_7 : decode cX11_fastest 7 = .ok (.istore 4, 2) := by decide +kernel
theorem dX11_fastest_9 : decode cX11_fastest 9 = .ok (.iload 4, 2) := by decide +kernel
theorem dX11_fastest_11 : decode cX11_fastest 11 = .ok (.aload_n 0, 1) := by decide +kernel
theorem dX11_fastest_12 : decode cX11_fastest 12 = .ok (.getfield 7, 3) := by decide +kernel
theorem dX11_fastest_15 : decode cX11_fastest 15 = .ok (.iconst 3, 1) := by decide +kernel
theorem dX11_fastest_16 : decode cX11_fastest 16 = .ok (.iaload, 1) := by decide +kernel
theorem dX11_fastest_17 : decode cX11_fastest 17 = .ok (.if_icmp .ge 38, 3) := by decide +kernel
theorem dX11_fastest_20 : decode cX11_fastest 20 = .ok (.aload_n 0, 1) := by decide +kernel
theorem dX11_fastest_21 : decode cX11_fastest 21 = .ok (.iload_n 1, 1) := by decide +kernel
theorem dX11_fastest_22 : decode cX11_fastest 22 = .ok (.iload 4, 2) := by decide +kernel
theorem dX11_fastest_24 : decode cX11_fastest 24 = .ok (.invokevirtual 77, 3) := by decide +kernel
theorem dX11_fastest_27 : decode cX11_fastest 27 = .ok (.istore 5, 2) := by decide +kernel
theorem dX11_fastest_29 : decode cX11_fastest 29 = .ok (.iload 5, 2) := by decide +kernel
theorem dX11_fastest_31 : decode cX11_fastest 31 = .ok (.ifCond .lt 18, 3) := by decide +kernel
theorem dX11_fastest_34 : decode cX11_fastest 34 = .ok (.iload 5, 2) := by decide +kernel
theorem dX11_fastest_36 : decode cX11_fastest 36 = .ok (.iload_n 3, 1) := by decide +kernel
theorem dX11_fastest_37 : decode cX11_fastest 37 = .ok (.if_icmp .lt 6, 3) := by decide +kernel
theorem dX11_fastest_40 : decode cX11_fastest 40 = .ok (.goto 9, 3) := by decide +kernel
theorem dX11_fastest_43 : decode cX11_fastest 43 = .ok (.iload 5, 2) := by decide +kernel
theorem dX11_fastest_45 : decode cX11_fastest 45 = .ok (.istore_n 3, 1) := by decide +kernel
theorem dX11_fastest_46 : decode cX11_fastest 46 = .ok (.iload 4, 2) := by decide +kernel
theorem dX11_fastest_48 : decode cX11_fastest 48 = .ok (.istore_n 2, 1) := by decide +kernel
theorem dX11_fastest_49 : decode cX11_fastest 49 = .ok (.iinc 4 1, 3) := by decide +kernel
theorem dX11_fastest_52 : decode cX11_fastest 52 = .ok (.goto (-43), 3) := by decide +kernel
theorem dX11_fastest_55 : decode cX11_fastest 55 = .ok (.iload_n 2, 1) := by decide +kernel
theorem dX11_fastest_56 : decode cX11_fastest 56 = .ok (.ireturn, 1) := by decide +kernel
theorem dX11_press_0 : decode cX11_press 0 = .ok (.aload_n 0, 1) := by decide +kernel
theorem dX11_press_1 : decode cX11_press 1 = .ok (.iload_n 1, 1) := by decide +kernel
theorem dX11_press_2 : decode cX11_press 2 = .ok (.iload_n 2, 1) := by decide +kernel
theorem dX11_press_3 : decode cX11_press 3 = .ok (.invokevirtual 77, 3) := by decide +kernel
theorem dX11_press_6 : decode cX11_press 6 = .ok (.istore_n 3, 1) := by decide +kernel
theorem dX11_press_7 : decode cX11_press 7 = .ok (.iload_n 3, 1) := by decide +kernel
theorem dX11_press_8 : decode cX11_press 8 = .ok (.ifCond .lt 21, 3) := by decide +kernel
theorem dX11_press_11 : decode cX11_press 11 = .ok (.aload_n 0, 1) := by decide +kernel
theorem dX11_press_12 : decode cX11_press 12 = .ok (.getfield 7, 3) := by decide +kernel
theorem dX11_press_15 : decode cX11_press 15 = .ok (.bipush 50, 2) := by decide +kernel
theorem dX11_press_17 : decode cX11_press 17 = .ok (.bipush 8, 2) := by decide +kernel
theorem dX11_press_19 : decode cX11_press 19 = .ok (.iload_n 1, 1) := by decide +kernel
theorem dX11_press_20 : decode cX11_press 20 = .ok (.imul, 1) := by decide +kernel
theorem dX11_press_21 : decode cX11_press 21 = .ok (.iadd, 1) := by decide +kernel
theorem dX11_press_22 : decode cX11_press 22 = .ok (.bipush 7, 2) := by decide +kernel
theorem dX11_press_24 : decode cX11_press 24 = .ok (.iadd, 1) := by decide +kernel
theorem dX11_press_25 : decode cX11_press 25 = .ok (.iaload, 1) := by decide +kernel
theorem dX11_press_26 : decode cX11_press 26 = .ok (.ifCond .lt 5, 3) := by decide +kernel
theorem dX11_press_29 : decode cX11_press 29 = .ok (.iconst 0, 1) := by decide +kernel
theorem dX11_press_30 : decode cX11_press 30 = .ok (.ireturn, 1) := by decide +kernel
theorem dX11_press_31 : decode cX11_press 31 = .ok (.aload_n 0, 1) := by decide +kernel
theorem dX11_press_32 : decode cX11_press 32 = .ok (.getfield 7, 3) := by decide +kernel
theorem dX11_press_35 : decode cX11_press 35 = .ok (.bipush 50, 2) := by decide +kernel
theorem dX11_press_37 : decode cX11_press 37 = .ok (.bipush 8, 2) := by decide +kernel
theorem dX11_press_39 : decode cX11_press 39 = .ok (.iload_n 1, 1) := by decide +kernel
theorem dX11_press_40 : decode cX11_press 40 = .ok (.imul, 1) := by decide +kernel
theorem dX11_press_41 : decode cX11_press 41 = .ok (.iadd, 1) := by decide +kernel
theorem dX11_press_42 : decode cX11_press 42 = .ok (.bipush 7, 2) := by decide +kernel
theorem dX11_press_44 : decode cX11_press 44 = .ok (.iadd, 1) := by decide +kernel
theorem dX11_press_45 : decode cX11_press 45 = .ok (.iload_n 3, 1) := by decide +kernel
theorem dX11_press_46 : decode cX11_press 46 = .ok (.iastore, 1) := by decide +kernel
theorem dX11_press_47 : decode cX11_press 47 = .ok (.iconst 1, 1) := by decide +kernel
theorem dX11_press_48 : decode cX11_press 48 = .ok (.ireturn, 1) := by decide +kernel
theorem dX11_shell_0 : decode cX11_shell 0 = .ok (.aload_n 0, 1) := by decide +kernel
theorem dX11_shell_1 : decode cX11_shell 1 = .ok (.iload_n 1, 1) := by decide +kernel
theorem dX11_shell_2 : decode cX11_shell 2 = .ok (.iconst 2, 1) := by decide +kernel
theorem dX11_shell_3 : decode cX11_shell 3 = .ok (.invokevirtual 42, 3) := by decide +kernel
theorem dX11_shell_6 : decode cX11_shell 6 = .ok (.ifCond .eq 44, 3) := by decide +kernel
theorem dX11_shell_9 : decode cX11_shell 9 = .ok (.aload_n 0, 1) := by decide +kernel
theorem dX11_shell_10 : decode cX11_shell 10 = .ok (.iload_n 2, 1) := by decide +kernel
theorem dX11_shell_11 : decode cX11_shell 11 = .ok (.iconst 3, 1) := by decide +kernel
theorem dX11_shell_12 : decode cX11_shell 12 = .ok (.invokevirtual 42, 3) := by decide +kernel
theorem dX11_shell_15 : decode cX11_shell 15 = .ok (.ifCond .eq 35, 3) := by decide +kernel
theorem dX11_shell_18 : decode cX11_shell 18 = .ok (.iload_n 3, 1) := by decide +kernel
theorem dX11_shell_19 : decode cX11_shell 19 = .ok (.iconst 0, 1) := by decide +kernel
theorem dX11_shell_20 : decode cX11_shell 20 = .ok (.sipush 400, 3) := by decide +kernel
theorem dX11_shell_23 : decode cX11_shell 23 = .ok (.invokestatic 38, 3) := by decide +kernel
theorem dX11_shell_26 : decode cX11_shell 26 = .ok (.ifCond .eq 24, 3) := by decide +kernel
theorem dX11_shell_29 : decode cX11_shell 29 = .ok (.iload 4, 2) := by decide +kernel
theorem dX11_shell_31 : decode cX11_shell 31 = .ok (.iconst 0, 1) := by decide +kernel
theorem dX11_shell_32 : decode cX11_shell 32 = .ok (.bipush 8, 2) := by decide +kernel
theorem dX11_shell_34 : decode cX11_shell 34 = .ok (.invokestatic 38, 3) := by decide +kernel
theorem dX11_shell_37 : decode cX11_shell 37 = .ok (.ifCond .eq 13, 3) := by decide +kernel
theorem dX11_shell_40 : decode cX11_shell 40 = .ok (.iload 5, 2) := by decide +kernel
theorem dX11_shell_42 : decode cX11_shell 42 = .ok (.iconst 0, 1) := by decide +kernel
theorem dX11_shell_43 : decode cX11_shell 43 = .ok (.iconst 2, 1) := by decide +kernel
theorem dX11_shell_44 : decode cX11_shell 44 = .ok (.invokestatic 38, 3) := by decide +kernel
theorem dX11_shell_47 : decode cX11_shell 47 = .ok (.ifCond .ne 5, 3) := by decide +kernel
theorem dX11_shell_50 : decode cX11_shell 50 = .ok (.iconst (-1), 1) := by decide +kernel
theorem dX11_shell_51 : decode cX11_shell 51 = .ok (.ireturn, 1) := by decide +kernel
theorem dX11_shell_52 : decode cX11_shell 52 = .ok (.aload_n 0, 1) := by decide +kernel
theorem dX11_shell_53 : decode cX11_shell 53 = .ok (.invokevirtual 66, 3) := by decide +kernel
theorem dX11_shell_56 : decode cX11_shell 56 = .ok (.iconst 0, 1) := by decide +kernel
theorem dX11_shell_57 : decode cX11_shell 57 = .ok (.istore 6, 2) := by decide +kernel
theorem dX11_shell_59 : decode cX11_shell 59 = .ok (.iload 6, 2) := by decide +kernel
theorem dX11_shell_61 : decode cX11_shell 61 = .ok (.iload_n 3, 1) := by decide +kernel
theorem dX11_shell_62 : decode cX11_shell 62 = .ok (.if_icmp .ge 14, 3) := by decide +kernel
theorem dX11_shell_65 : decode cX11_shell 65 = .ok (.aload_n 0, 1) := by decide +kernel
theorem dX11_shell_66 : decode cX11_shell 66 = .ok (.iload_n 2, 1) := by decide +kernel
theorem dX11_shell_67 : decode cX11_shell 67 = .ok (.invokevirtual 69, 3) := by decide +kernel
theorem dX11_shell_70 : decode cX11_shell 70 = .ok (.iinc 6 1, 3) := by decide +kernel
theorem dX11_shell_73 : decode cX11_shell 73 = .ok (.goto (-14), 3) := by decide +kernel
theorem dX11_shell_76 : decode cX11_shell 76 = .ok (.iload 5, 2) := by decide +kernel
theorem dX11_shell_78 : decode cX11_shell 78 = .ok (.ifCond .ne 13, 3) := by decide +kernel
theorem dX11_shell_81 : decode cX11_shell 81 = .ok (.aload_n 0, 1) := by decide +kernel
theorem dX11_shell_82 : decode cX11_shell 82 = .ok (.getfield 17, 3) := by decide +kernel
theorem dX11_shell_85 : decode cX11_shell 85 = .ok (.iload 4, 2) := by decide +kernel
theorem dX11_shell_87 : decode cX11_shell 87 = .ok (.iaload, 1) := by decide +kernel
theorem dX11_shell_88 : decode cX11_shell 88 = .ok (.goto 26, 3) := by decide +kernel
theorem dX11_shell_91 : decode cX11_shell 91 = .ok (.iload 5, 2) := by decide +kernel
theorem dX11_shell_93 : decode cX11_shell 93 = .ok (.iconst 1, 1) := by decide +kernel
theorem dX11_shell_94 : decode cX11_shell 94 = .ok (.if_icmp .ne 13, 3) := by decide +kernel
theorem dX11_shell_97 : decode cX11_shell 97 = .ok (.aload_n 0, 1) := by decide +kernel
theorem dX11_shell_98 : decode cX11_shell 98 = .ok (.getfield 23, 3) := by decide +kernel
theorem dX11_shell_101 : decode cX11_shell 101 = .ok (.iload 4, 2) := by decide +kernel
theorem dX11_shell_103 : decode cX11_shell 103 = .ok (.iaload, 1) := by decide +kernel
theorem dX11_shell_104 : decode cX11_shell 104 = .ok (.goto 10, 3) := by decide +kernel
theorem dX11_shell_107 : decode cX11_shell 107 = .ok (.aload_n 0, 1) := by decide +kernel
theorem dX11_shell_108 : decode cX11_shell 108 = .ok (.iload_n 1, 1) := by decide +kernel
theorem dX11_shell_109 : decode cX11_shell 109 = .ok (.iload 4, 2) := by decide +kernel
theorem dX11_shell_111 : decode cX11_shell 111 = .ok (.invokevirtual 62, 3) := by decide +kernel
theorem dX11_shell_114 : decode cX11_shell 114 = .ok (.ireturn, 1) := by decide +kernel
theorem dX11_link_0 : decode cX11_link 0 = .ok (.iload_n 1, 1) := by decide +kernel
theorem dX11_link_1 : decode cX11_link 1 = .ok (.iconst 0, 1) := by decide +kernel
theorem dX11_link_2 : decode cX11_link 2 = .ok (.bipush 7, 2) := by decide +kernel
theorem dX11_link_4 : decode cX11_link 4 = .ok (.invokestatic 38, 3) := by decide +kernel
theorem dX11_link_7 : decode cX11_link 7 = .ok (.ifCond .eq 22, 3) := by decide +kernel
theorem dX11_link_10 : decode cX11_link 10 = .ok (.iload_n 2, 1) := by decide +kernel
theorem dX11_link_11 : decode cX11_link 11 = .ok (.iconst 0, 1) := by decide +kernel
theorem dX11_link_12 : decode cX11_link 12 = .ok (.iconst 3, 1) := by decide +kernel
theorem dX11_link_13 : decode cX11_link 13 = .ok (.invokestatic 38, 3) := by decide +kernel
theorem dX11_link_16 : decode cX11_link 16 = .ok (.ifCond .eq 13, 3) := by decide +kernel
theorem dX11_link_19 : decode cX11_link 19 = .ok (.iload_n 3, 1) := by decide +kernel
theorem dX11_link_20 : decode cX11_link 20 = .ok (.iconst 0, 1) := by decide +kernel
theorem dX11_link_21 : decode cX11_link 21 = .ok (.bipush 7, 2) := by decide +kernel
theorem dX11_link_23 : decode cX11_link 23 = .ok (.invokestatic 38, 3) := by decide +kernel
theorem dX11_link_26 : decode cX11_link 26 = .ok (.ifCond .ne 5, 3) := by decide +kernel
theorem dX11_link_29 : decode cX11_link 29 = .ok (.iconst 0, 1) := by decide +kernel
theorem dX11_link_30 : decode cX11_link 30 = .ok (.ireturn, 1) := by decide +kernel
theorem dX11_link_31 : decode cX11_link 31 = .ok (.aload_n 0, 1) := by decide +kernel
theorem dX11_link_32 : decode cX11_link 32 = .ok (.getfield 7, 3) := by decide +kernel
theorem dX11_link_35 : decode cX11_link 35 = .ok (.sipush 250, 3) := by decide +kernel
theorem dX11_link_38 : decode cX11_link 38 = .ok (.bipush 6, 2) := by decide +kernel
theorem dX11_link_40 : decode cX11_link 40 = .ok (.iload_n 1, 1) := by decide +kernel
theorem dX11_link_41 : decode cX11_link 41 = .ok (.imul, 1) := by decide +kernel
theorem dX11_link_42 : decode cX11_link 42 = .ok (.iadd, 1) := by decide +kernel
theorem dX11_link_43 : decode cX11_link 43 = .ok (.iload_n 2, 1) := by decide +kernel
theorem dX11_link_44 : decode cX11_link 44 = .ok (.iadd, 1) := by decide +kernel
theorem dX11_link_45 : decode cX11_link 45 = .ok (.iload_n 3, 1) := by decide +kernel
theorem dX11_link_46 : decode cX11_link 46 = .ok (.iastore, 1) := by decide +kernel
theorem dX11_link_47 : decode cX11_link 47 = .ok (.iconst 1, 1) := by decide +kernel
theorem dX11_link_48 : decode cX11_link 48 = .ok (.ireturn, 1) := by decide +kernel
theorem dX11_state_0 : decode cX11_state 0 = .ok (.iload_n 1, 1) := by decide +kernel
theorem dX11_state_1 : decode cX11_state 1 = .ok (.iconst 0, 1) := by decide +kernel
theorem dX11_state_2 : decode cX11_state 2 = .ok (.bipush 7, 2) := by decide +kernel
theorem dX11_state_4 : decode cX11_state 4 = .ok (.invokestatic 38, 3) := by decide +kernel
theorem dX11_state_7 : decode cX11_state 7 = .ok (.ifCond .ne 5, 3) := by decide +kernel
theorem dX11_state_10 : decode cX11_state 10 = .ok (.iconst 0, 1) := by decide +kernel
theorem dX11_state_11 : decode cX11_state 11 = .ok (.ireturn, 1) := by decide +kernel
theorem dX11_state_12 : decode cX11_state 12 = .ok (.aload_n 0, 1) := by decide +kernel
theorem dX11_state_13 : decode cX11_state 13 = .ok (.getfield 7, 3) := by decide +kernel
theorem dX11_state_16 : decode cX11_state 16 = .ok (.sipush 250, 3) := by decide +kernel
theorem dX11_state_19 : decode cX11_state 19 = .ok (.bipush 6, 2) := by decide +kernel
theorem dX11_state_21 : decode cX11_state 21 = .ok (.iload_n 1, 1) := by decide +kernel
theorem dX11_state_22 : decode cX11_state 22 = .ok (.imul, 1) := by decide +kernel
theorem dX11_state_23 : decode cX11_state 23 = .ok (.iadd, 1) := by decide +kernel
theorem dX11_state_24 : decode cX11_state 24 = .ok (.iconst 4, 1) := by decide +kernel
theorem dX11_state_25 : decode cX11_state 25 = .ok (.iadd, 1) := by decide +kernel
theorem dX11_state_26 : decode cX11_state 26 = .ok (.iload_n 2, 1) := by decide +kernel
theorem dX11_state_27 : decode cX11_state 27 = .ok (.ifCond .eq 7, 3) := by decide +kernel
theorem dX11_state_30 : decode cX11_state 30 = .ok (.iconst 1, 1) := by decide +kernel
theorem dX11_state_31 : decode cX11_state 31 = .ok (.goto 4, 3) := by decide +kernel
theorem dX11_state_34 : decode cX11_state 34 = .ok (.iconst 0, 1) := by decide +kernel
theorem dX11_state_35 : decode cX11_state 35 = .ok (.iastore, 1) := by decide +kernel
theorem dX11_state_36 : decode cX11_state 36 = .ok (.aload_n 0, 1) := by decide +kernel
theorem dX11_state_37 : decode cX11_state 37 = .ok (.getfield 7, 3) := by decide +kernel
theorem dX11_state_40 : decode cX11_state 40 = .ok (.sipush 250, 3) := by decide +kernel
theorem dX11_state_43 : decode cX11_state 43 = .ok (.bipush 6, 2) := by decide +kernel
theorem dX11_state_45 : decode cX11_state 45 = .ok (.iload_n 1, 1) := by decide +kernel
theorem dX11_state_46 : decode cX11_state 46 = .ok (.imul, 1) := by decide +kernel
theorem dX11_state_47 : decode cX11_state 47 = .ok (.iadd, 1) := by decide +kernel
theorem dX11_state_48 : decode cX11_state 48 = .ok (.iconst 5, 1) := by decide +kernel
theorem dX11_state_49 : decode cX11_state 49 = .ok (.iadd, 1) := by decide +kernel
theorem dX11_state_50 : decode cX11_state 50 = .ok (.iload_n 3, 1) := by decide +kernel
theorem dX11_state_51 : decode cX11_state 51 = .ok (.ifCond .eq 7, 3) := by decide +kernel
theorem dX11_state_54 : decode cX11_state 54 = .ok (.iconst 1, 1) := by decide +kernel
theorem dX11_state_55 : decode cX11_state 55 = .ok (.goto 4, 3) := by decide +kernel
theorem dX11_state_58 : decode cX11_state 58 = .ok (.iconst 0, 1) := by decide +kernel
theorem dX11_state_59 : decode cX11_state 59 = .ok (.iastore, 1) := by decide +kernel
theorem dX11_state_60 : decode cX11_state 60 = .ok (.iconst 1, 1) := by decide +kernel
theorem dX11_state_61 : decode cX11_state 61 = .ok (.ireturn, 1) := by decide +kernel
theorem dX11_next_0 : decode cX11_next 0 = .ok (.aload_n 0, 1) := by decide +kernel
theorem dX11_next_1 : decode cX11_next 1 = .ok (.getfield 7, 3) := by decide +kernel
theorem dX11_next_4 : decode cX11_next 4 = .ok (.sipush 250, 3) := by decide +kernel
theorem dX11_next_7 : decode cX11_next 7 = .ok (.bipush 6, 2) := by decide +kernel
theorem dX11_next_9 : decode cX11_next 9 = .ok (.iload_n 1, 1) := by decide +kernel
theorem dX11_next_10 : decode cX11_next 10 = .ok (.iconst 4, 1) := by decide +kernel
theorem dX11_next_11 : decode cX11_next 11 = .ok (.idiv, 1) := by decide +kernel
theorem dX11_next_12 : decode cX11_next 12 = .ok (.imul, 1) := by decide +kernel
theorem dX11_next_13 : decode cX11_next 13 = .ok (.iadd, 1) := by decide +kernel
theorem dX11_next_14 : decode cX11_next 14 = .ok (.iload_n 2, 1) := by decide +kernel
theorem dX11_next_15 : decode cX11_next 15 = .ok (.iadd, 1) := by decide +kernel
theorem dX11_next_16 : decode cX11_next 16 = .ok (.iaload, 1) := by decide +kernel
theorem dX11_next_17 : decode cX11_next 17 = .ok (.istore_n 3, 1) := by decide +kernel
theorem dX11_next_18 : decode cX11_next 18 = .ok (.aload_n 0, 1) := by decide +kernel
theorem dX11_next_19 : decode cX11_next 19 = .ok (.getfield 7, 3) := by decide +kernel
theorem dX11_next_22 : decode cX11_next 22 = .ok (.sipush 250, 3) := by decide +kernel
theorem dX11_next_25 : decode cX11_next 25 = .ok (.bipush 6, 2) := by decide +kernel
theorem dX11_next_27 : decode cX11_next 27 = .ok (.iload_n 3, 1) := by decide +kernel
theorem dX11_next_28 : decode cX11_next 28 = .ok (.imul, 1) := by decide +kernel
theorem dX11_next_29 : decode cX11_next 29 = .ok (.iadd, 1) := by decide +kernel
theorem dX11_next_30 : decode cX11_next 30 = .ok (.iconst 5, 1) := by decide +kernel
theorem dX11_next_31 : decode cX11_next 31 = .ok (.iadd, 1) := by decide +kernel
theorem dX11_next_32 : decode cX11_next 32 = .ok (.iaload, 1) := by decide +kernel
theorem dX11_next_33 : decode cX11_next 33 = .ok (.iconst 1, 1) := by decide +kernel
theorem dX11_next_34 : decode cX11_next 34 = .ok (.if_icmp .ne 7, 3) := by decide +kernel
theorem dX11_next_37 : decode cX11_next 37 = .ok (.iconst 2, 1) := by decide +kernel
theorem dX11_next_38 : decode cX11_next 38 = .ok (.goto 4, 3) := by decide +kernel
theorem dX11_next_41 : decode cX11_next 41 = .ok (.iconst 1, 1) := by decide +kernel
theorem dX11_next_42 : decode cX11_next 42 = .ok (.istore 4, 2) := by decide +kernel
theorem dX11_next_44 : decode cX11_next 44 = .ok (.iload_n 2, 1) := by decide +kernel
theorem dX11_next_45 : decode cX11_next 45 = .ok (.iconst 1, 1) := by decide +kernel
theorem dX11_next_46 : decode cX11_next 46 = .ok (.if_icmp .ne 7, 3) := by decide +kernel
theorem dX11_next_49 : decode cX11_next 49 = .ok (.iconst 3, 1) := by decide +kernel
theorem dX11_next_50 : decode cX11_next 50 = .ok (.goto 21, 3) := by decide +kernel
theorem dX11_next_53 : decode cX11_next 53 = .ok (.iload_n 1, 1) := by decide +kernel
theorem dX11_next_54 : decode cX11_next 54 = .ok (.iconst 4, 1) := by decide +kernel
theorem dX11_next_55 : decode cX11_next 55 = .ok (.irem, 1) := by decide +kernel
theorem dX11_next_56 : decode cX11_next 56 = .ok (.iload 4, 2) := by decide +kernel
theorem dX11_next_58 : decode cX11_next 58 = .ok (.if_icmp .le 12, 3) := by decide +kernel
theorem dX11_next_61 : decode cX11_next 61 = .ok (.iload_n 1, 1) := by decide +kernel
theorem dX11_next_62 : decode cX11_next 62 = .ok (.iconst 4, 1) := by decide +kernel
theorem dX11_next_63 : decode cX11_next 63 = .ok (.irem, 1) := by decide +kernel
theorem dX11_next_64 : decode cX11_next 64 = .ok (.iload 4, 2) := by decide +kernel
theorem dX11_next_66 : decode cX11_next 66 = .ok (.isub, 1) := by decide +kernel
theorem dX11_next_67 : decode cX11_next 67 = .ok (.goto 4, 3) := by decide +kernel
theorem dX11_next_70 : decode cX11_next 70 = .ok (.iconst 0, 1) := by decide +kernel
theorem dX11_next_71 : decode cX11_next 71 = .ok (.istore 5, 2) := by decide +kernel
theorem dX11_next_73 : decode cX11_next 73 = .ok (.iconst 4, 1) := by decide +kernel
theorem dX11_next_74 : decode cX11_next 74 = .ok (.iload_n 3, 1) := by decide +kernel
theorem dX11_next_75 : decode cX11_next 75 = .ok (.imul, 1) := by decide +kernel
theorem dX11_next_76 : decode cX11_next 76 = .ok (.iload 5, 2) := by decide +kernel
theorem dX11_next_78 : decode cX11_next 78 = .ok (.iadd, 1) := by decide +kernel
theorem dX11_next_79 : decode cX11_next 79 = .ok (.ireturn, 1) := by decide +kernel
theorem dX11_isBad_0 : decode cX11_isBad 0 = .ok (.aload_n 0, 1) := by decide +kernel
theorem dX11_isBad_1 : decode cX11_isBad 1 = .ok (.getfield 7, 3) := by decide +kernel
theorem dX11_isBad_4 : decode cX11_isBad 4 = .ok (.sipush 250, 3) := by decide +kernel
theorem dX11_isBad_7 : decode cX11_isBad 7 = .ok (.bipush 6, 2) := by decide +kernel
theorem dX11_isBad_9 : decode cX11_isBad 9 = .ok (.iload_n 1, 1) := by decide +kernel
theorem dX11_isBad_10 : decode cX11_isBad 10 = .ok (.iconst 4, 1) := by decide +kernel
theorem dX11_isBad_11 : decode cX11_isBad 11 = .ok (.idiv, 1) := by decide +kernel
theorem dX11_isBad_12 : decode cX11_isBad 12 = .ok (.imul, 1) := by decide +kernel
theorem dX11_isBad_13 : decode cX11_isBad 13 = .ok (.iadd, 1) := by decide +kernel
theorem dX11_isBad_14 : decode cX11_isBad 14 = .ok (.iconst 4, 1) := by decide +kernel
theorem dX11_isBad_15 : decode cX11_isBad 15 = .ok (.iadd, 1) := by decide +kernel
theorem dX11_isBad_16 : decode cX11_isBad 16 = .ok (.iaload, 1) := by decide +kernel
theorem dX11_isBad_17 : decode cX11_isBad 17 = .ok (.iconst 1, 1) := by decide +kernel
theorem dX11_isBad_18 : decode cX11_isBad 18 = .ok (.if_icmp .ne 14, 3) := by decide +kernel
theorem dX11_isBad_21 : decode cX11_isBad 21 = .ok (.iload_n 1, 1) := by decide +kernel
theorem dX11_isBad_22 : decode cX11_isBad 22 = .ok (.iconst 4, 1) := by decide +kernel
theorem dX11_isBad_23 : decode cX11_isBad 23 = .ok (.irem, 1) := by decide +kernel
theorem dX11_isBad_24 : decode cX11_isBad 24 = .ok (.iconst 2, 1) := by decide +kernel
theorem dX11_isBad_25 : decode cX11_isBad 25 = .ok (.if_icmp .lt 7, 3) := by decide +kernel
theorem dX11_isBad_28 : decode cX11_isBad 28 = .ok (.iconst 1, 1) := by decide +kernel
theorem dX11_isBad_29 : decode cX11_isBad 29 = .ok (.goto 4, 3) := by decide +kernel
theorem dX11_isBad_32 : decode cX11_isBad 32 = .ok (.iconst 0, 1) := by decide +kernel
theorem dX11_isBad_33 : decode cX11_isBad 33 = .ok (.ireturn, 1) := by decide +kernel
theorem dX11_onward_0 : decode cX11_onward 0 = .ok (.aload_n 0, 1) := by decide +kernel
theorem dX11_onward_1 : decode cX11_onward 1 = .ok (.iload_n 1, 1) := by decide +kernel
theorem dX11_onward_2 : decode cX11_onward 2 = .ok (.iload_n 2, 1) := by decide +kernel
theorem dX11_onward_3 : decode cX11_onward 3 = .ok (.invokevirtual 80, 3) := by decide +kernel
theorem dX11_onward_6 : decode cX11_onward 6 = .ok (.istore_n 3, 1) := by decide +kernel
theorem dX11_onward_7 : decode cX11_onward 7 = .ok (.aload_n 0, 1) := by decide +kernel
theorem dX11_onward_8 : decode cX11_onward 8 = .ok (.iload_n 3, 1) := by decide +kernel
theorem dX11_onward_9 : decode cX11_onward 9 = .ok (.invokevirtual 83, 3) := by decide +kernel
theorem dX11_onward_12 : decode cX11_onward 12 = .ok (.ifCond .eq 7, 3) := by decide +kernel
theorem dX11_onward_15 : decode cX11_onward 15 = .ok (.iconst 1, 1) := by decide +kernel
theorem dX11_onward_16 : decode cX11_onward 16 = .ok (.goto 24, 3) := by decide +kernel
theorem dX11_onward_19 : decode cX11_onward 19 = .ok (.aload_n 0, 1) := by decide +kernel
theorem dX11_onward_20 : decode cX11_onward 20 = .ok (.getfield 26, 3) := by decide +kernel
theorem dX11_onward_23 : decode cX11_onward 23 = .ok (.iload_n 3, 1) := by decide +kernel
theorem dX11_onward_24 : decode cX11_onward 24 = .ok (.iaload, 1) := by decide +kernel
theorem dX11_onward_25 : decode cX11_onward 25 = .ok (.ifCond .ge 7, 3) := by decide +kernel
theorem dX11_onward_28 : decode cX11_onward 28 = .ok (.iconst (-1), 1) := by decide +kernel
theorem dX11_onward_29 : decode cX11_onward 29 = .ok (.goto 11, 3) := by decide +kernel
theorem dX11_onward_32 : decode cX11_onward 32 = .ok (.aload_n 0, 1) := by decide +kernel
theorem dX11_onward_33 : decode cX11_onward 33 = .ok (.getfield 26, 3) := by decide +kernel
theorem dX11_onward_36 : decode cX11_onward 36 = .ok (.iload_n 3, 1) := by decide +kernel
theorem dX11_onward_37 : decode cX11_onward 37 = .ok (.iaload, 1) := by decide +kernel
theorem dX11_onward_38 : decode cX11_onward 38 = .ok (.iconst 1, 1) := by decide +kernel
theorem dX11_onward_39 : decode cX11_onward 39 = .ok (.iadd, 1) := by decide +kernel
theorem dX11_onward_40 : decode cX11_onward 40 = .ok (.ireturn, 1) := by decide +kernel
theorem dX11_distances_0 : decode cX11_distances 0 = .ok (.iconst 0, 1) := by decide +kernel
theorem dX11_distances_1 : decode cX11_distances 1 = .ok (.istore_n 1, 1) := by decide +kernel
theorem dX11_distances_2 : decode cX11_distances 2 = .ok (.iload_n 1, 1) := by decide +kernel
theorem dX11_distances_3 : decode cX11_distances 3 = .ok (.bipush 32, 2) := by decide +kernel
theorem dX11_distances_5 : decode cX11_distances 5 = .ok (.if_icmp .ge 16, 3) := by decide +kernel
theorem dX11_distances_8 : decode cX11_distances 8 = .ok (.aload_n 0, 1) := by decide +kernel
theorem dX11_distances_9 : decode cX11_distances 9 = .ok (.getfield 26, 3) := by decide +kernel
theorem dX11_distances_12 : decode cX11_distances 12 = .ok (.iload_n 1, 1) := by decide +kernel
theorem dX11_distances_13 : decode cX11_distances 13 = .ok (.iconst (-1), 1) := by decide +kernel
theorem dX11_distances_14 : decode cX11_distances 14 = .ok (.iastore, 1) := by decide +kernel
theorem dX11_distances_15 : decode cX11_distances 15 = .ok (.iinc 1 1, 3) := by decide +kernel
theorem dX11_distances_18 : decode cX11_distances 18 = .ok (.goto (-16), 3) := by decide +kernel
theorem dX11_distances_21 : decode cX11_distances 21 = .ok (.iconst 1, 1) := by decide +kernel
theorem dX11_distances_22 : decode cX11_distances 22 = .ok (.istore_n 1, 1) := by decide +kernel
theorem dX11_distances_23 : decode cX11_distances 23 = .ok (.iload_n 1, 1) := by decide +kernel
theorem dX11_distances_24 : decode cX11_distances 24 = .ok (.ifCond .eq 81, 3) := by decide +kernel
theorem dX11_distances_27 : decode cX11_distances 27 = .ok (.iconst 0, 1) := by decide +kernel
theorem dX11_distances_28 : decode cX11_distances 28 = .ok (.istore_n 1, 1) := by decide +kernel
theorem dX11_distances_29 : decode cX11_distances 29 = .ok (.iconst 0, 1) := by decide +kernel
theorem dX11_distances_30 : decode cX11_distances 30 = .ok (.istore_n 2, 1) := by decide +kernel
theorem dX11_distances_31 : decode cX11_distances 31 = .ok (.iload_n 2, 1) := by decide +kernel
theorem dX11_distances_32 : decode cX11_distances 32 = .ok (.bipush 32, 2) := by decide +kernel
theorem dX11_distances_34 : decode cX11_distances 34 = .ok (.if_icmp .ge 68, 3) := by decide +kernel
theorem dX11_distances_37 : decode cX11_distances 37 = .ok (.iconst 0, 1) := by decide +kernel
theorem dX11_distances_38 : decode cX11_distances 38 = .ok (.istore_n 3, 1) := by decide +kernel
theorem dX11_distances_39 : decode cX11_distances 39 = .ok (.iload_n 3, 1) := by decide +kernel
theorem dX11_distances_40 : decode cX11_distances 40 = .ok (.iconst 4, 1) := by decide +kernel
theorem dX11_distances_41 : decode cX11_distances 41 = .ok (.if_icmp .ge 55, 3) := by decide +kernel
theorem dX11_distances_44 : decode cX11_distances 44 = .ok (.aload_n 0, 1) := by decide +kernel
theorem dX11_distances_45 : decode cX11_distances 45 = .ok (.iload_n 2, 1) := by decide +kernel
theorem dX11_distances_46 : decode cX11_distances 46 = .ok (.iload_n 3, 1) := by decide +kernel
theorem dX11_distances_47 : decode cX11_distances 47 = .ok (.invokevirtual 86, 3) := by decide +kernel
theorem dX11_distances_50 : decode cX11_distances 50 = .ok (.istore 4, 2) := by decide +kernel
theorem dX11_distances_52 : decode cX11_distances 52 = .ok (.iload 4, 2) := by decide +kernel
theorem dX11_distances_54 : decode cX11_distances 54 = .ok (.ifCond .lt 36, 3) := by decide +kernel
theorem dX11_distances_57 : decode cX11_distances 57 = .ok (.aload_n 0, 1) := by decide +kernel
theorem dX11_distances_58 : decode cX11_distances 58 = .ok (.getfield 26, 3) := by decide +kernel
theorem dX11_distances_61 : decode cX11_distances 61 = .ok (.iload_n 2, 1) := by decide +kernel
theorem dX11_distances_62 : decode cX11_distances 62 = .ok (.iaload, 1) := by decide +kernel
theorem dX11_distances_63 : decode cX11_distances 63 = .ok (.ifCond .lt 17, 3) := by decide +kernel
theorem dX11_distances_66 : decode cX11_distances 66 = .ok (.aload_n 0, 1) := by decide +kernel
theorem dX11_distances_67 : decode cX11_distances 67 = .ok (.getfield 26, 3) := by decide +kernel
theorem dX11_distances_70 : decode cX11_distances 70 = .ok (.iload_n 2, 1) := by decide +kernel
theorem dX11_distances_71 : decode cX11_distances 71 = .ok (.iaload, 1) := by decide +kernel
theorem dX11_distances_72 : decode cX11_distances 72 = .ok (.iload 4, 2) := by decide +kernel
theorem dX11_distances_74 : decode cX11_distances 74 = .ok (.if_icmp .gt 6, 3) := by decide +kernel
theorem dX11_distances_77 : decode cX11_distances 77 = .ok (.goto 13, 3) := by decide +kernel
theorem dX11_distances_80 : decode cX11_distances 80 = .ok (.aload_n 0, 1) := by decide +kernel
theorem dX11_distances_81 : decode cX11_distances 81 = .ok (.getfield 26, 3) := by decide +kernel
theorem dX11_distances_84 : decode cX11_distances 84 = .ok (.iload_n 2, 1) := by decide +kernel
theorem dX11_distances_85 : decode cX11_distances 85 = .ok (.iload 4, 2) := by decide +kernel
theorem dX11_distances_87 : decode cX11_distances 87 = .ok (.iastore, 1) := by decide +kernel
theorem dX11_distances_88 : decode cX11_distances 88 = .ok (.iconst 1, 1) := by decide +kernel
theorem dX11_distances_89 : decode cX11_distances 89 = .ok (.istore_n 1, 1) := by decide +kernel
theorem dX11_distances_90 : decode cX11_distances 90 = .ok (.iinc 3 1, 3) := by decide +kernel
theorem dX11_distances_93 : decode cX11_distances 93 = .ok (.goto (-54), 3) := by decide +kernel
theorem dX11_distances_96 : decode cX11_distances 96 = .ok (.iinc 2 1, 3) := by decide +kernel
theorem dX11_distances_99 : decode cX11_distances 99 = .ok (.goto (-68), 3) := by decide +kernel
theorem dX11_distances_102 : decode cX11_distances 102 = .ok (.goto (-79), 3) := by decide +kernel
theorem dX11_distances_105 : decode cX11_distances 105 = .ok (.return_, 1) := by decide +kernel
theorem dX11_badRow_0 : decode cX11_badRow 0 = .ok (.aload_n 0, 1) := by decide +kernel
theorem dX11_badRow_1 : decode cX11_badRow 1 = .ok (.invokevirtual 89, 3) := by decide +kernel
theorem dX11_badRow_4 : decode cX11_badRow 4 = .ok (.aload_n 0, 1) := by decide +kernel
theorem dX11_badRow_5 : decode cX11_badRow 5 = .ok (.getfield 26, 3) := by decide +kernel
theorem dX11_badRow_8 : decode cX11_badRow 8 = .ok (.iconst 0, 1) := by decide +kernel
theorem dX11_badRow_9 : decode cX11_badRow 9 = .ok (.iaload, 1) := by decide +kernel
theorem dX11_badRow_10 : decode cX11_badRow 10 = .ok (.ireturn, 1) := by decide +kernel
theorem dX11_bad_0 : decode cX11_bad 0 = .ok (.aload_n 0, 1) := by decide +kernel
theorem dX11_bad_1 : decode cX11_bad 1 = .ok (.invokevirtual 89, 3) := by decide +kernel
theorem dX11_bad_4 : decode cX11_bad 4 = .ok (.iload_n 1, 1) := by decide +kernel
theorem dX11_bad_5 : decode cX11_bad 5 = .ok (.iconst 0, 1) := by decide +kernel
theorem dX11_bad_6 : decode cX11_bad 6 = .ok (.aload_n 0, 1) := by decide +kernel
theorem dX11_bad_7 : decode cX11_bad 7 = .ok (.getfield 26, 3) := by decide +kernel
theorem dX11_bad_10 : decode cX11_bad 10 = .ok (.iconst 0, 1) := by decide +kernel
theorem dX11_bad_11 : decode cX11_bad 11 = .ok (.iaload, 1) := by decide +kernel
theorem dX11_bad_12 : decode cX11_bad 12 = .ok (.iconst 1, 1) := by decide +kernel
theorem dX11_bad_13 : decode cX11_bad 13 = .ok (.isub, 1) := by decide +kernel
theorem dX11_bad_14 : decode cX11_bad 14 = .ok (.invokestatic 38, 3) := by decide +kernel
theorem dX11_bad_17 : decode cX11_bad 17 = .ok (.ifCond .ne 5, 3) := by decide +kernel
theorem dX11_bad_20 : decode cX11_bad 20 = .ok (.iconst (-1), 1) := by decide +kernel
theorem dX11_bad_21 : decode cX11_bad 21 = .ok (.ireturn, 1) := by decide +kernel
theorem dX11_bad_22 : decode cX11_bad 22 = .ok (.iconst 0, 1) := by decide +kernel
theorem dX11_bad_23 : decode cX11_bad 23 = .ok (.istore_n 2, 1) := by decide +kernel
theorem dX11_bad_24 : decode cX11_bad 24 = .ok (.iconst 0, 1) := by decide +kernel
theorem dX11_bad_25 : decode cX11_bad 25 = .ok (.istore_n 3, 1) := by decide +kernel
theorem dX11_bad_26 : decode cX11_bad 26 = .ok (.aload_n 0, 1) := by decide +kernel
theorem dX11_bad_27 : decode cX11_bad 27 = .ok (.getfield 26, 3) := by decide +kernel
theorem dX11_bad_30 : decode cX11_bad 30 = .ok (.iconst 0, 1) := by decide +kernel
theorem dX11_bad_31 : decode cX11_bad 31 = .ok (.iaload, 1) := by decide +kernel
theorem dX11_bad_32 : decode cX11_bad 32 = .ok (.iload_n 3, 1) := by decide +kernel
theorem dX11_bad_33 : decode cX11_bad 33 = .ok (.isub, 1) := by decide +kernel
theorem dX11_bad_34 : decode cX11_bad 34 = .ok (.istore 4, 2) := by decide +kernel
theorem dX11_bad_36 : decode cX11_bad 36 = .ok (.iconst 0, 1) := by decide +kernel
theorem dX11_bad_37 : decode cX11_bad 37 = .ok (.istore 5, 2) := by decide +kernel
theorem dX11_bad_39 : decode cX11_bad 39 = .ok (.aload_n 0, 1) := by decide +kernel
theorem dX11_bad_40 : decode cX11_bad 40 = .ok (.iload_n 2, 1) := by decide +kernel
theorem dX11_bad_41 : decode cX11_bad 41 = .ok (.iload 5, 2) := by decide +kernel
theorem dX11_bad_43 : decode cX11_bad 43 = .ok (.invokevirtual 86, 3) := by decide +kernel
theorem dX11_bad_46 : decode cX11_bad 46 = .ok (.iload 4, 2) := by decide +kernel
theorem dX11_bad_48 : decode cX11_bad 48 = .ok (.if_icmp .eq 9, 3) := by decide +kernel
theorem dX11_bad_51 : decode cX11_bad 51 = .ok (.iinc 5 1, 3) := by decide +kernel
theorem dX11_bad_54 : decode cX11_bad 54 = .ok (.goto (-15), 3) := by decide +kernel
theorem dX11_bad_57 : decode cX11_bad 57 = .ok (.iload_n 3, 1) := by decide +kernel
theorem dX11_bad_58 : decode cX11_bad 58 = .ok (.iload_n 1, 1) := by decide +kernel
theorem dX11_bad_59 : decode cX11_bad 59 = .ok (.if_icmp .ne 6, 3) := by decide +kernel
theorem dX11_bad_62 : decode cX11_bad 62 = .ok (.iload 5, 2) := by decide +kernel
theorem dX11_bad_64 : decode cX11_bad 64 = .ok (.ireturn, 1) := by decide +kernel
theorem dX11_bad_65 : decode cX11_bad 65 = .ok (.aload_n 0, 1) := by decide +kernel
theorem dX11_bad_66 : decode cX11_bad 66 = .ok (.iload_n 2, 1) := by decide +kernel
theorem dX11_bad_67 : decode cX11_bad 67 = .ok (.iload 5, 2) := by decide +kernel
theorem dX11_bad_69 : decode cX11_bad 69 = .ok (.invokevirtual 80, 3) := by decide +kernel
theorem dX11_bad_72 : decode cX11_bad 72 = .ok (.istore_n 2, 1) := by decide +kernel
theorem dX11_bad_73 : decode cX11_bad 73 = .ok (.iinc 3 1, 3) := by decide +kernel
theorem dX11_bad_76 : decode cX11_bad 76 = .ok (.goto (-50), 3) := by decide +kernel
theorem dX11_sheet_0 : decode cX11_sheet 0 = .ok (.aload_n 0, 1) := by decide +kernel
theorem dX11_sheet_1 : decode cX11_sheet 1 = .ok (.getfield 7, 3) := by decide +kernel
theorem dX11_sheet_4 : decode cX11_sheet 4 = .ok (.iconst 4, 1) := by decide +kernel
theorem dX11_sheet_5 : decode cX11_sheet 5 = .ok (.iaload, 1) := by decide +kernel
theorem dX11_sheet_6 : decode cX11_sheet 6 = .ok (.bipush 6, 2) := by decide +kernel
theorem dX11_sheet_8 : decode cX11_sheet 8 = .ok (.if_icmp .eq 34, 3) := by decide +kernel
theorem dX11_sheet_11 : decode cX11_sheet 11 = .ok (.iload_n 1, 1) := by decide +kernel
theorem dX11_sheet_12 : decode cX11_sheet 12 = .ok (.iconst 1, 1) := by decide +kernel
theorem dX11_sheet_13 : decode cX11_sheet 13 = .ok (.bipush 24, 2) := by decide +kernel
theorem dX11_sheet_15 : decode cX11_sheet 15 = .ok (.invokestatic 38, 3) := by decide +kernel
theorem dX11_sheet_18 : decode cX11_sheet 18 = .ok (.ifCond .eq 24, 3) := by decide +kernel
theorem dX11_sheet_21 : decode cX11_sheet 21 = .ok (.iload_n 2, 1) := by decide +kernel
theorem dX11_sheet_22 : decode cX11_sheet 22 = .ok (.iconst 1, 1) := by decide +kernel
theorem dX11_sheet_23 : decode cX11_sheet 23 = .ok (.bipush 24, 2) := by decide +kernel
theorem dX11_sheet_25 : decode cX11_sheet 25 = .ok (.invokestatic 38, 3) := by decide +kernel
theorem dX11_sheet_28 : decode cX11_sheet 28 = .ok (.ifCond .eq 14, 3) := by decide +kernel
theorem dX11_sheet_31 : decode cX11_sheet 31 = .ok (.iload_n 3, 1) := by decide +kernel
theorem dX11_sheet_32 : decode cX11_sheet 32 = .ok (.iconst 1, 1) := by decide +kernel
theorem dX11_sheet_33 : decode cX11_sheet 33 = .ok (.sipush 999, 3) := by decide +kernel
theorem dX11_sheet_36 : decode cX11_sheet 36 = .ok (.invokestatic 38, 3) := by decide +kernel
theorem dX11_sheet_39 : decode cX11_sheet 39 = .ok (.ifCond .ne 5, 3) := by decide +kernel
theorem dX11_sheet_42 : decode cX11_sheet 42 = .ok (.iconst (-1), 1) := by decide +kernel
theorem dX11_sheet_43 : decode cX11_sheet 43 = .ok (.ireturn, 1) := by decide +kernel
theorem dX11_sheet_44 : decode cX11_sheet 44 = .ok (.sipush 300, 3) := by decide +kernel
theorem dX11_sheet_47 : decode cX11_sheet 47 = .ok (.iconst 3, 1) := by decide +kernel
theorem dX11_sheet_48 : decode cX11_sheet 48 = .ok (.aload_n 0, 1) := by decide +kernel
theorem dX11_sheet_49 : decode cX11_sheet 49 = .ok (.getfield 7, 3) := by decide +kernel
theorem dX11_sheet_52 : decode cX11_sheet 52 = .ok (.iconst 4, 1) := by decide +kernel
theorem dX11_sheet_53 : decode cX11_sheet 53 = .ok (.iaload, 1) := by decide +kernel
theorem dX11_sheet_54 : decode cX11_sheet 54 = .ok (.imul, 1) := by decide +kernel
theorem dX11_sheet_55 : decode cX11_sheet 55 = .ok (.iadd, 1) := by decide +kernel
theorem dX11_sheet_56 : decode cX11_sheet 56 = .ok (.istore 4, 2) := by decide +kernel
theorem dX11_sheet_58 : decode cX11_sheet 58 = .ok (.aload_n 0, 1) := by decide +kernel
theorem dX11_sheet_59 : decode cX11_sheet 59 = .ok (.getfield 7, 3) := by decide +kernel
theorem dX11_sheet_62 : decode cX11_sheet 62 = .ok (.iload 4, 2) := by decide +kernel
theorem dX11_sheet_64 : decode cX11_sheet 64 = .ok (.iload_n 1, 1) := by decide +kernel
theorem dX11_sheet_65 : decode cX11_sheet 65 = .ok (.iastore, 1) := by decide +kernel
theorem dX11_sheet_66 : decode cX11_sheet 66 = .ok (.aload_n 0, 1) := by decide +kernel
theorem dX11_sheet_67 : decode cX11_sheet 67 = .ok (.getfield 7, 3) := by decide +kernel
theorem dX11_sheet_70 : decode cX11_sheet 70 = .ok (.iload 4, 2) := by decide +kernel
theorem dX11_sheet_72 : decode cX11_sheet 72 = .ok (.iconst 1, 1) := by decide +kernel
theorem dX11_sheet_73 : decode cX11_sheet 73 = .ok (.iadd, 1) := by decide +kernel
theorem dX11_sheet_74 : decode cX11_sheet 74 = .ok (.iload_n 2, 1) := by decide +kernel
theorem dX11_sheet_75 : decode cX11_sheet 75 = .ok (.iastore, 1) := by decide +kernel
theorem dX11_sheet_76 : decode cX11_sheet 76 = .ok (.aload_n 0, 1) := by decide +kernel
theorem dX11_sheet_77 : decode cX11_sheet 77 = .ok (.getfield 7, 3) := by decide +kernel
theorem dX11_sheet_80 : decode cX11_sheet 80 = .ok (.iload 4, 2) := by decide +kernel
theorem dX11_sheet_82 : decode cX11_sheet 82 = .ok (.iconst 2, 1) := by decide +kernel
theorem dX11_sheet_83 : decode cX11_sheet 83 = .ok (.iadd, 1) := by decide +kernel
theorem dX11_sheet_84 : decode cX11_sheet 84 = .ok (.iload_n 3, 1) := by decide +kernel
theorem dX11_sheet_85 : decode cX11_sheet 85 = .ok (.iastore, 1) := by decide +kernel
theorem dX11_sheet_86 : decode cX11_sheet 86 = .ok (.aload_n 0, 1) := by decide +kernel
theorem dX11_sheet_87 : decode cX11_sheet 87 = .ok (.getfield 7, 3) := by decide +kernel
theorem dX11_sheet_90 : decode cX11_sheet 90 = .ok (.iconst 4, 1) := by decide +kernel
theorem dX11_sheet_91 : decode cX11_sheet 91 = .ok (.dup2, 1) := by decide +kernel
theorem dX11_sheet_92 : decode cX11_sheet 92 = .ok (.iaload, 1) := by decide +kernel
theorem dX11_sheet_93 : decode cX11_sheet 93 = .ok (.iconst 1, 1) := by decide +kernel
theorem dX11_sheet_94 : decode cX11_sheet 94 = .ok (.iadd, 1) := by decide +kernel
theorem dX11_sheet_95 : decode cX11_sheet 95 = .ok (.iastore, 1) := by decide +kernel
theorem dX11_sheet_96 : decode cX11_sheet 96 = .ok (.aload_n 0, 1) := by decide +kernel
theorem dX11_sheet_97 : decode cX11_sheet 97 = .ok (.getfield 7, 3) := by decide +kernel
theorem dX11_sheet_100 : decode cX11_sheet 100 = .ok (.iconst 4, 1) := by decide +kernel
theorem dX11_sheet_101 : decode cX11_sheet 101 = .ok (.iaload, 1) := by decide +kernel
theorem dX11_sheet_102 : decode cX11_sheet 102 = .ok (.iconst 1, 1) := by decide +kernel
theorem dX11_sheet_103 : decode cX11_sheet 103 = .ok (.isub, 1) := by decide +kernel
theorem dX11_sheet_104 : decode cX11_sheet 104 = .ok (.ireturn, 1) := by decide +kernel
theorem dX11_board_0 : decode cX11_board 0 = .ok (.bipush 25, 2) := by decide +kernel
theorem dX11_board_2 : decode cX11_board 2 = .ok (.iload_n 0, 1) := by decide +kernel
theorem dX11_board_3 : decode cX11_board 3 = .ok (.imul, 1) := by decide +kernel
theorem dX11_board_4 : decode cX11_board 4 = .ok (.iload_n 1, 1) := by decide +kernel
theorem dX11_board_5 : decode cX11_board 5 = .ok (.iadd, 1) := by decide +kernel
theorem dX11_board_6 : decode cX11_board 6 = .ok (.ireturn, 1) := by decide +kernel
theorem dX11_tries_0 : decode cX11_tries 0 = .ok (.iload_n 2, 1) := by decide +kernel
theorem dX11_tries_1 : decode cX11_tries 1 = .ok (.aload_n 0, 1) := by decide +kernel
theorem dX11_tries_2 : decode cX11_tries 2 = .ok (.getfield 29, 3) := by decide +kernel
theorem dX11_tries_5 : decode cX11_tries 5 = .ok (.iload_n 1, 1) := by decide +kernel
theorem dX11_tries_6 : decode cX11_tries 6 = .ok (.iaload, 1) := by decide +kernel
theorem dX11_tries_7 : decode cX11_tries 7 = .ok (.if_icmp .gt 4, 3) := by decide +kernel
theorem dX11_tries_10 : decode cX11_tries 10 = .ok (.return_, 1) := by decide +kernel
theorem dX11_tries_11 : decode cX11_tries 11 = .ok (.aload_n 0, 1) := by decide +kernel
theorem dX11_tries_12 : decode cX11_tries 12 = .ok (.getfield 29, 3) := by decide +kernel
theorem dX11_tries_15 : decode cX11_tries 15 = .ok (.iload_n 1, 1) := by decide +kernel
theorem dX11_tries_16 : decode cX11_tries 16 = .ok (.iload_n 2, 1) := by decide +kernel
theorem dX11_tries_17 : decode cX11_tries 17 = .ok (.iastore, 1) := by decide +kernel
theorem dX11_tries_18 : decode cX11_tries 18 = .ok (.aload_n 0, 1) := by decide +kernel
theorem dX11_tries_19 : decode cX11_tries 19 = .ok (.getfield 32, 3) := by decide +kernel
theorem dX11_tries_22 : decode cX11_tries 22 = .ok (.iload_n 1, 1) := by decide +kernel
theorem dX11_tries_23 : decode cX11_tries 23 = .ok (.iload_n 3, 1) := by decide +kernel
theorem dX11_tries_24 : decode cX11_tries 24 = .ok (.iastore, 1) := by decide +kernel
theorem dX11_tries_25 : decode cX11_tries 25 = .ok (.return_, 1) := by decide +kernel
theorem dX11_settles_0 : decode cX11_settles 0 = .ok (.iload_n 1, 1) := by decide +kernel
theorem dX11_settles_1 : decode cX11_settles 1 = .ok (.iload_n 2, 1) := by decide +kernel
theorem dX11_settles_2 : decode cX11_settles 2 = .ok (.invokestatic 92, 3) := by decide +kernel
theorem dX11_settles_5 : decode cX11_settles 5 = .ok (.istore_n 3, 1) := by decide +kernel
theorem dX11_settles_6 : decode cX11_settles 6 = .ok (.aload_n 0, 1) := by decide +kernel
theorem dX11_settles_7 : decode cX11_settles 7 = .ok (.getfield 29, 3) := by decide +kernel
theorem dX11_settles_10 : decode cX11_settles 10 = .ok (.iload_n 3, 1) := by decide +kernel
theorem dX11_settles_11 : decode cX11_settles 11 = .ok (.iconst 0, 1) := by decide +kernel
theorem dX11_settles_12 : decode cX11_settles 12 = .ok (.iastore, 1) := by decide +kernel
theorem dX11_settles_13 : decode cX11_settles 13 = .ok (.aload_n 0, 1) := by decide +kernel
theorem dX11_settles_14 : decode cX11_settles 14 = .ok (.getfield 32, 3) := by decide +kernel
theorem dX11_settles_17 : decode cX11_settles 17 = .ok (.iload_n 3, 1) := by decide +kernel
theorem dX11_settles_18 : decode cX11_settles 18 = .ok (.bipush (-100), 2) := by decide +kernel
theorem dX11_settles_20 : decode cX11_settles 20 = .ok (.iastore, 1) := by decide +kernel
theorem dX11_settles_21 : decode cX11_settles 21 = .ok (.iconst 0, 1) := by decide +kernel
theorem dX11_settles_22 : decode cX11_settles 22 = .ok (.istore 4, 2) := by decide +kernel
theorem dX11_settles_24 : decode cX11_settles 24 = .ok (.iload 4, 2) := by decide +kernel
theorem dX11_settles_26 : decode cX11_settles 26 = .ok (.aload_n 0, 1) := by decide +kernel
theorem dX11_settles_27 : decode cX11_settles 27 = .ok (.getfield 7, 3) := by decide +kernel
theorem dX11_settles_30 : decode cX11_settles 30 = .ok (.iconst 4, 1) := by decide +kernel
theorem dX11_settles_31 : decode cX11_settles 31 = .ok (.iaload, 1) := by decide +kernel
theorem dX11_settles_32 : decode cX11_settles 32 = .ok (.if_icmp .ge 69, 3) := by decide +kernel
theorem dX11_settles_35 : decode cX11_settles 35 = .ok (.aload_n 0, 1) := by decide +kernel
theorem dX11_settles_36 : decode cX11_settles 36 = .ok (.getfield 7, 3) := by decide +kernel
theorem dX11_settles_39 : decode cX11_settles 39 = .ok (.sipush 300, 3) := by decide +kernel
theorem dX11_settles_42 : decode cX11_settles 42 = .ok (.iconst 3, 1) := by decide +kernel
theorem dX11_settles_43 : decode cX11_settles 43 = .ok (.iload 4, 2) := by decide +kernel
theorem dX11_settles_45 : decode cX11_settles 45 = .ok (.imul, 1) := by decide +kernel
theorem dX11_settles_46 : decode cX11_settles 46 = .ok (.iadd, 1) := by decide +kernel
theorem dX11_settles_47 : decode cX11_settles 47 = .ok (.iaload, 1) := by decide +kernel
theorem dX11_settles_48 : decode cX11_settles 48 = .ok (.iload_n 1, 1) := by decide +kernel
theorem dX11_settles_49 : decode cX11_settles 49 = .ok (.if_icmp .gt 46, 3) := by decide +kernel
theorem dX11_settles_52 : decode cX11_settles 52 = .ok (.aload_n 0, 1) := by decide +kernel
theorem dX11_settles_53 : decode cX11_settles 53 = .ok (.getfield 7, 3) := by decide +kernel
theorem dX11_settles_56 : decode cX11_settles 56 = .ok (.sipush 300, 3) := by decide +kernel
theorem dX11_settles_59 : decode cX11_settles 59 = .ok (.iconst 3, 1) := by decide +kernel
theorem dX11_settles_60 : decode cX11_settles 60 = .ok (.iload 4, 2) := by decide +kernel
theorem dX11_settles_62 : decode cX11_settles 62 = .ok (.imul, 1) := by decide +kernel
theorem dX11_settles_63 : decode cX11_settles 63 = .ok (.iadd, 1) := by decide +kernel
theorem dX11_settles_64 : decode cX11_settles 64 = .ok (.iconst 1, 1) := by decide +kernel
theorem dX11_settles_65 : decode cX11_settles 65 = .ok (.iadd, 1) := by decide +kernel
theorem dX11_settles_66 : decode cX11_settles 66 = .ok (.iaload, 1) := by decide +kernel
theorem dX11_settles_67 : decode cX11_settles 67 = .ok (.iload_n 2, 1) := by decide +kernel
theorem dX11_settles_68 : decode cX11_settles 68 = .ok (.if_icmp .gt 27, 3) := by decide +kernel
theorem dX11_settles_71 : decode cX11_settles 71 = .ok (.aload_n 0, 1) := by decide +kernel
theorem dX11_settles_72 : decode cX11_settles 72 = .ok (.iload_n 3, 1) := by decide +kernel
theorem dX11_settles_73 : decode cX11_settles 73 = .ok (.aload_n 0, 1) := by decide +kernel
theorem dX11_settles_74 : decode cX11_settles 74 = .ok (.getfield 7, 3) := by decide +kernel
theorem dX11_settles_77 : decode cX11_settles 77 = .ok (.sipush 300, 3) := by decide +kernel
theorem dX11_settles_80 : decode cX11_settles 80 = .ok (.iconst 3, 1) := by decide +kernel
theorem dX11_settles_81 : decode cX11_settles 81 = .ok (.iload 4, 2) := by decide +kernel
theorem dX11_settles_83 : decode cX11_settles 83 = .ok (.imul, 1) := by decide +kernel
theorem dX11_settles_84 : decode cX11_settles 84 = .ok (.iadd, 1) := by decide +kernel
theorem dX11_settles_85 : decode cX11_settles 85 = .ok (.iconst 2, 1) := by decide +kernel
theorem dX11_settles_86 : decode cX11_settles 86 = .ok (.iadd, 1) := by decide +kernel
theorem dX11_settles_87 : decode cX11_settles 87 = .ok (.iaload, 1) := by decide +kernel
theorem dX11_settles_88 : decode cX11_settles 88 = .ok (.iconst (-1), 1) := by decide +kernel
theorem dX11_settles_89 : decode cX11_settles 89 = .ok (.iload 4, 2) := by decide +kernel
theorem dX11_settles_91 : decode cX11_settles 91 = .ok (.isub, 1) := by decide +kernel
theorem dX11_settles_92 : decode cX11_settles 92 = .ok (.invokevirtual 95, 3) := by decide +kernel
theorem dX11_settles_95 : decode cX11_settles 95 = .ok (.iinc 4 1, 3) := by decide +kernel
theorem dX11_settles_98 : decode cX11_settles 98 = .ok (.goto (-74), 3) := by decide +kernel
theorem dX11_settles_101 : decode cX11_settles 101 = .ok (.iconst 1, 1) := by decide +kernel
theorem dX11_settles_102 : decode cX11_settles 102 = .ok (.istore 4, 2) := by decide +kernel
theorem dX11_settles_104 : decode cX11_settles 104 = .ok (.iload 4, 2) := by decide +kernel
theorem dX11_settles_106 : decode cX11_settles 106 = .ok (.aload_n 0, 1) := by decide +kernel
theorem dX11_settles_107 : decode cX11_settles 107 = .ok (.getfield 7, 3) := by decide +kernel
theorem dX11_settles_110 : decode cX11_settles 110 = .ok (.bipush 8, 2) := by decide +kernel
theorem dX11_settles_112 : decode cX11_settles 112 = .ok (.iaload, 1) := by decide +kernel
theorem dX11_settles_113 : decode cX11_settles 113 = .ok (.iadd, 1) := by decide +kernel
theorem dX11_settles_114 : decode cX11_settles 114 = .ok (.iload_n 1, 1) := by decide +kernel
theorem dX11_settles_115 : decode cX11_settles 115 = .ok (.if_icmp .ge 49, 3) := by decide +kernel
theorem dX11_settles_118 : decode cX11_settles 118 = .ok (.aload_n 0, 1) := by decide +kernel
theorem dX11_settles_119 : decode cX11_settles 119 = .ok (.iload_n 3, 1) := by decide +kernel
theorem dX11_settles_120 : decode cX11_settles 120 = .ok (.aload_n 0, 1) := by decide +kernel
theorem dX11_settles_121 : decode cX11_settles 121 = .ok (.getfield 29, 3) := by decide +kernel
theorem dX11_settles_124 : decode cX11_settles 124 = .ok (.iload 4, 2) := by decide +kernel
theorem dX11_settles_126 : decode cX11_settles 126 = .ok (.iload_n 2, 1) := by decide +kernel
theorem dX11_settles_127 : decode cX11_settles 127 = .ok (.invokestatic 92, 3) := by decide +kernel
theorem dX11_settles_130 : decode cX11_settles 130 = .ok (.iaload, 1) := by decide +kernel
theorem dX11_settles_131 : decode cX11_settles 131 = .ok (.aload_n 0, 1) := by decide +kernel
theorem dX11_settles_132 : decode cX11_settles 132 = .ok (.getfield 29, 3) := by decide +kernel
theorem dX11_settles_135 : decode cX11_settles 135 = .ok (.iload_n 1, 1) := by decide +kernel
theorem dX11_settles_136 : decode cX11_settles 136 = .ok (.iload 4, 2) := by decide +kernel
theorem dX11_settles_138 : decode cX11_settles 138 = .ok (.isub, 1) := by decide +kernel
theorem dX11_settles_139 : decode cX11_settles 139 = .ok (.aload_n 0, 1) := by decide +kernel
theorem dX11_settles_140 : decode cX11_settles 140 = .ok (.getfield 7, 3) := by decide +kernel
theorem dX11_settles_143 : decode cX11_settles 143 = .ok (.bipush 8, 2) := by decide +kernel
theorem dX11_settles_145 : decode cX11_settles 145 = .ok (.iaload, 1) := by decide +kernel
theorem dX11_settles_146 : decode cX11_settles 146 = .ok (.isub, 1) := by decide +kernel
theorem dX11_settles_147 : decode cX11_settles 147 = .ok (.iload_n 2, 1) := by decide +kernel
theorem dX11_settles_148 : decode cX11_settles 148 = .ok (.invokestatic 92, 3) := by decide +kernel
theorem dX11_settles_151 : decode cX11_settles 151 = .ok (.iaload, 1) := by decide +kernel
theorem dX11_settles_152 : decode cX11_settles 152 = .ok (.iadd, 1) := by decide +kernel
theorem dX11_settles_153 : decode cX11_settles 153 = .ok (.iload 4, 2) := by decide +kernel
theorem dX11_settles_155 : decode cX11_settles 155 = .ok (.invokevirtual 95, 3) := by decide +kernel
theorem dX11_settles_158 : decode cX11_settles 158 = .ok (.iinc 4 1, 3) := by decide +kernel
theorem dX11_settles_161 : decode cX11_settles 161 = .ok (.goto (-57), 3) := by decide +kernel
theorem dX11_settles_164 : decode cX11_settles 164 = .ok (.iconst 1, 1) := by decide +kernel
theorem dX11_settles_165 : decode cX11_settles 165 = .ok (.istore 4, 2) := by decide +kernel
theorem dX11_settles_167 : decode cX11_settles 167 = .ok (.iload 4, 2) := by decide +kernel
theorem dX11_settles_169 : decode cX11_settles 169 = .ok (.aload_n 0, 1) := by decide +kernel
theorem dX11_settles_170 : decode cX11_settles 170 = .ok (.getfield 7, 3) := by decide +kernel
theorem dX11_settles_173 : decode cX11_settles 173 = .ok (.bipush 8, 2) := by decide +kernel
theorem dX11_settles_175 : decode cX11_settles 175 = .ok (.iaload, 1) := by decide +kernel
theorem dX11_settles_176 : decode cX11_settles 176 = .ok (.iadd, 1) := by decide +kernel
theorem dX11_settles_177 : decode cX11_settles 177 = .ok (.iload_n 2, 1) := by decide +kernel
theorem dX11_settles_178 : decode cX11_settles 178 = .ok (.if_icmp .ge 52, 3) := by decide +kernel
theorem dX11_settles_181 : decode cX11_settles 181 = .ok (.aload_n 0, 1) := by decide +kernel
theorem dX11_settles_182 : decode cX11_settles 182 = .ok (.iload_n 3, 1) := by decide +kernel
theorem dX11_settles_183 : decode cX11_settles 183 = .ok (.aload_n 0, 1) := by decide +kernel
theorem dX11_settles_184 : decode cX11_settles 184 = .ok (.getfield 29, 3) := by decide +kernel
theorem dX11_settles_187 : decode cX11_settles 187 = .ok (.iload_n 1, 1) := by decide +kernel
theorem dX11_settles_188 : decode cX11_settles 188 = .ok (.iload 4, 2) := by decide +kernel
theorem dX11_settles_190 : decode cX11_settles 190 = .ok (.invokestatic 92, 3) := by decide +kernel
theorem dX11_settles_193 : decode cX11_settles 193 = .ok (.iaload, 1) := by decide +kernel
theorem dX11_settles_194 : decode cX11_settles 194 = .ok (.aload_n 0, 1) := by decide +kernel
theorem dX11_settles_195 : decode cX11_settles 195 = .ok (.getfield 29, 3) := by decide +kernel
theorem dX11_settles_198 : decode cX11_settles 198 = .ok (.iload_n 1, 1) := by decide +kernel
theorem dX11_settles_199 : decode cX11_settles 199 = .ok (.iload_n 2, 1) := by decide +kernel
theorem dX11_settles_200 : decode cX11_settles 200 = .ok (.iload 4, 2) := by decide +kernel
theorem dX11_settles_202 : decode cX11_settles 202 = .ok (.isub, 1) := by decide +kernel
theorem dX11_settles_203 : decode cX11_settles 203 = .ok (.aload_n 0, 1) := by decide +kernel
theorem dX11_settles_204 : decode cX11_settles 204 = .ok (.getfield 7, 3) := by decide +kernel
theorem dX11_settles_207 : decode cX11_settles 207 = .ok (.bipush 8, 2) := by decide +kernel
theorem dX11_settles_209 : decode cX11_settles 209 = .ok (.iaload, 1) := by decide +kernel
theorem dX11_settles_210 : decode cX11_settles 210 = .ok (.isub, 1) := by decide +kernel
theorem dX11_settles_211 : decode cX11_settles 211 = .ok (.invokestatic 92, 3) := by decide +kernel
theorem dX11_settles_214 : decode cX11_settles 214 = .ok (.iaload, 1) := by decide +kernel
theorem dX11_settles_215 : decode cX11_settles 215 = .ok (.iadd, 1) := by decide +kernel
theorem dX11_settles_216 : decode cX11_settles 216 = .ok (.bipush 100, 2) := by decide +kernel
theorem dX11_settles_218 : decode cX11_settles 218 = .ok (.iload 4, 2) := by decide +kernel
theorem dX11_settles_220 : decode cX11_settles 220 = .ok (.iadd, 1) := by decide +kernel
theorem dX11_settles_221 : decode cX11_settles 221 = .ok (.invokevirtual 95, 3) := by decide +kernel
theorem dX11_settles_224 : decode cX11_settles 224 = .ok (.iinc 4 1, 3) := by decide +kernel
theorem dX11_settles_227 : decode cX11_settles 227 = .ok (.goto (-60), 3) := by decide +kernel
theorem dX11_settles_230 : decode cX11_settles 230 = .ok (.return_, 1) := by decide +kernel
theorem dX11_reckons_0 : decode cX11_reckons 0 = .ok (.iconst 1, 1) := by decide +kernel
theorem dX11_reckons_1 : decode cX11_reckons 1 = .ok (.istore_n 3, 1) := by decide +kernel
theorem dX11_reckons_2 : decode cX11_reckons 2 = .ok (.iload_n 3, 1) := by decide +kernel
theorem dX11_reckons_3 : decode cX11_reckons 3 = .ok (.iload_n 1, 1) := by decide +kernel
theorem dX11_reckons_4 : decode cX11_reckons 4 = .ok (.if_icmp .gt 31, 3) := by decide +kernel
theorem dX11_reckons_7 : decode cX11_reckons 7 = .ok (.iconst 1, 1) := by decide +kernel
theorem dX11_reckons_8 : decode cX11_reckons 8 = .ok (.istore 4, 2) := by decide +kernel
theorem dX11_reckons_10 : decode cX11_reckons 10 = .ok (.iload 4, 2) := by decide +kernel
theorem dX11_reckons_12 : decode cX11_reckons 12 = .ok (.iload_n 2, 1) := by decide +kernel
theorem dX11_reckons_13 : decode cX11_reckons 13 = .ok (.if_icmp .gt 16, 3) := by decide +kernel
theorem dX11_reckons_16 : decode cX11_reckons 16 = .ok (.aload_n 0, 1) := by decide +kernel
theorem dX11_reckons_17 : decode cX11_reckons 17 = .ok (.iload_n 3, 1) := by decide +kernel
theorem dX11_reckons_18 : decode cX11_reckons 18 = .ok (.iload 4, 2) := by decide +kernel
theorem dX11_reckons_20 : decode cX11_reckons 20 = .ok (.invokevirtual 99, 3) := by decide +kernel
theorem dX11_reckons_23 : decode cX11_reckons 23 = .ok (.iinc 4 1, 3) := by decide +kernel
theorem dX11_reckons_26 : decode cX11_reckons 26 = .ok (.goto (-16), 3) := by decide +kernel
theorem dX11_reckons_29 : decode cX11_reckons 29 = .ok (.iinc 3 1, 3) := by decide +kernel
theorem dX11_reckons_32 : decode cX11_reckons 32 = .ok (.goto (-30), 3) := by decide +kernel
theorem dX11_reckons_35 : decode cX11_reckons 35 = .ok (.return_, 1) := by decide +kernel
theorem dX11_isBoard_0 : decode cX11_isBoard 0 = .ok (.iload_n 0, 1) := by decide +kernel
theorem dX11_isBoard_1 : decode cX11_isBoard 1 = .ok (.iconst 1, 1) := by decide +kernel
theorem dX11_isBoard_2 : decode cX11_isBoard 2 = .ok (.bipush 24, 2) := by decide +kernel
theorem dX11_isBoard_4 : decode cX11_isBoard 4 = .ok (.invokestatic 38, 3) := by decide +kernel
theorem dX11_isBoard_7 : decode cX11_isBoard 7 = .ok (.ifCond .eq 17, 3) := by decide +kernel
theorem dX11_isBoard_10 : decode cX11_isBoard 10 = .ok (.iload_n 1, 1) := by decide +kernel
theorem dX11_isBoard_11 : decode cX11_isBoard 11 = .ok (.iconst 1, 1) := by decide +kernel
theorem dX11_isBoard_12 : decode cX11_isBoard 12 = .ok (.bipush 24, 2) := by decide +kernel
theorem dX11_isBoard_14 : decode cX11_isBoard 14 = .ok (.invokestatic 38, 3) := by decide +kernel
theorem dX11_isBoard_17 : decode cX11_isBoard 17 = .ok (.ifCond .eq 7, 3) := by decide +kernel
theorem dX11_isBoard_20 : decode cX11_isBoard 20 = .ok (.iconst 1, 1) := by decide +kernel
theorem dX11_isBoard_21 : decode cX11_isBoard 21 = .ok (.goto 4, 3) := by decide +kernel
theorem dX11_isBoard_24 : decode cX11_isBoard 24 = .ok (.iconst 0, 1) := by decide +kernel
theorem dX11_isBoard_25 : decode cX11_isBoard 25 = .ok (.ireturn, 1) := by decide +kernel
theorem dX11_best_0 : decode cX11_best 0 = .ok (.iload_n 1, 1) := by decide +kernel
theorem dX11_best_1 : decode cX11_best 1 = .ok (.iload_n 2, 1) := by decide +kernel
theorem dX11_best_2 : decode cX11_best 2 = .ok (.invokestatic 103, 3) := by decide +kernel
theorem dX11_best_5 : decode cX11_best 5 = .ok (.ifCond .ne 5, 3) := by decide +kernel
theorem dX11_best_8 : decode cX11_best 8 = .ok (.iconst (-1), 1) := by decide +kernel
theorem dX11_best_9 : decode cX11_best 9 = .ok (.ireturn, 1) := by decide +kernel
theorem dX11_best_10 : decode cX11_best 10 = .ok (.aload_n 0, 1) := by decide +kernel
theorem dX11_best_11 : decode cX11_best 11 = .ok (.iload_n 1, 1) := by decide +kernel
theorem dX11_best_12 : decode cX11_best 12 = .ok (.iload_n 2, 1) := by decide +kernel
theorem dX11_best_13 : decode cX11_best 13 = .ok (.invokevirtual 106, 3) := by decide +kernel
theorem dX11_best_16 : decode cX11_best 16 = .ok (.aload_n 0, 1) := by decide +kernel
theorem dX11_best_17 : decode cX11_best 17 = .ok (.getfield 29, 3) := by decide +kernel
theorem dX11_best_20 : decode cX11_best 20 = .ok (.iload_n 1, 1) := by decide +kernel
theorem dX11_best_21 : decode cX11_best 21 = .ok (.iload_n 2, 1) := by decide +kernel
theorem dX11_best_22 : decode cX11_best 22 = .ok (.invokestatic 92, 3) := by decide +kernel
theorem dX11_best_25 : decode cX11_best 25 = .ok (.iaload, 1) := by decide +kernel
theorem dX11_best_26 : decode cX11_best 26 = .ok (.ireturn, 1) := by decide +kernel
theorem dX11_comes_0 : decode cX11_comes 0 = .ok (.aload_n 0, 1) := by decide +kernel
theorem dX11_comes_1 : decode cX11_comes 1 = .ok (.getfield 32, 3) := by decide +kernel
theorem dX11_comes_4 : decode cX11_comes 4 = .ok (.iload_n 1, 1) := by decide +kernel
theorem dX11_comes_5 : decode cX11_comes 5 = .ok (.iload_n 2, 1) := by decide +kernel
theorem dX11_comes_6 : decode cX11_comes 6 = .ok (.invokestatic 92, 3) := by decide +kernel
theorem dX11_comes_9 : decode cX11_comes 9 = .ok (.iaload, 1) := by decide +kernel
theorem dX11_comes_10 : decode cX11_comes 10 = .ok (.istore 4, 2) := by decide +kernel
theorem dX11_comes_12 : decode cX11_comes 12 = .ok (.iload 4, 2) := by decide +kernel
theorem dX11_comes_14 : decode cX11_comes 14 = .ok (.bipush (-100), 2) := by decide +kernel
theorem dX11_comes_16 : decode cX11_comes 16 = .ok (.if_icmp .ne 5, 3) := by decide +kernel
theorem dX11_comes_19 : decode cX11_comes 19 = .ok (.iconst 0, 1) := by decide +kernel
theorem dX11_comes_20 : decode cX11_comes 20 = .ok (.ireturn, 1) := by decide +kernel
theorem dX11_comes_21 : decode cX11_comes 21 = .ok (.iload 4, 2) := by decide +kernel
theorem dX11_comes_23 : decode cX11_comes 23 = .ok (.ifCond .ge 17, 3) := by decide +kernel
theorem dX11_comes_26 : decode cX11_comes 26 = .ok (.iload_n 3, 1) := by decide +kernel
theorem dX11_comes_27 : decode cX11_comes 27 = .ok (.iconst (-1), 1) := by decide +kernel
theorem dX11_comes_28 : decode cX11_comes 28 = .ok (.iload 4, 2) := by decide +kernel
theorem dX11_comes_30 : decode cX11_comes 30 = .ok (.isub, 1) := by decide +kernel
theorem dX11_comes_31 : decode cX11_comes 31 = .ok (.if_icmp .ne 7, 3) := by decide +kernel
theorem dX11_comes_34 : decode cX11_comes 34 = .ok (.iconst 1, 1) := by decide +kernel
theorem dX11_comes_35 : decode cX11_comes 35 = .ok (.goto 4, 3) := by decide +kernel
theorem dX11_comes_38 : decode cX11_comes 38 = .ok (.iconst 0, 1) := by decide +kernel
theorem dX11_comes_39 : decode cX11_comes 39 = .ok (.ireturn, 1) := by decide +kernel
theorem dX11_comes_40 : decode cX11_comes 40 = .ok (.iload_n 3, 1) := by decide +kernel
theorem dX11_comes_41 : decode cX11_comes 41 = .ok (.ifCond .ge 7, 3) := by decide +kernel
theorem dX11_comes_44 : decode cX11_comes 44 = .ok (.iconst 1, 1) := by decide +kernel
theorem dX11_comes_45 : decode cX11_comes 45 = .ok (.goto 4, 3) := by decide +kernel
theorem dX11_comes_48 : decode cX11_comes 48 = .ok (.iconst 0, 1) := by decide +kernel
theorem dX11_comes_49 : decode cX11_comes 49 = .ok (.istore 5, 2) := by decide +kernel
theorem dX11_comes_51 : decode cX11_comes 51 = .ok (.aload_n 0, 1) := by decide +kernel
theorem dX11_comes_52 : decode cX11_comes 52 = .ok (.getfield 7, 3) := by decide +kernel
theorem dX11_comes_55 : decode cX11_comes 55 = .ok (.bipush 8, 2) := by decide +kernel
theorem dX11_comes_57 : decode cX11_comes 57 = .ok (.iaload, 1) := by decide +kernel
theorem dX11_comes_58 : decode cX11_comes 58 = .ok (.istore 6, 2) := by decide +kernel
theorem dX11_comes_60 : decode cX11_comes 60 = .ok (.iload 4, 2) := by decide +kernel
theorem dX11_comes_62 : decode cX11_comes 62 = .ok (.bipush 100, 2) := by decide +kernel
theorem dX11_comes_64 : decode cX11_comes 64 = .ok (.if_icmp .ge 37, 3) := by decide +kernel
theorem dX11_comes_67 : decode cX11_comes 67 = .ok (.iload 5, 2) := by decide +kernel
theorem dX11_comes_69 : decode cX11_comes 69 = .ok (.aload_n 0, 1) := by decide +kernel
theorem dX11_comes_70 : decode cX11_comes 70 = .ok (.getfield 35, 3) := by decide +kernel
theorem dX11_comes_73 : decode cX11_comes 73 = .ok (.iload 4, 2) := by decide +kernel
theorem dX11_comes_75 : decode cX11_comes 75 = .ok (.iload_n 2, 1) := by decide +kernel
theorem dX11_comes_76 : decode cX11_comes 76 = .ok (.invokestatic 92, 3) := by decide +kernel
theorem dX11_comes_79 : decode cX11_comes 79 = .ok (.iaload, 1) := by decide +kernel
theorem dX11_comes_80 : decode cX11_comes 80 = .ok (.iadd, 1) := by decide +kernel
theorem dX11_comes_81 : decode cX11_comes 81 = .ok (.aload_n 0, 1) := by decide +kernel
theorem dX11_comes_82 : decode cX11_comes 82 = .ok (.getfield 35, 3) := by decide +kernel
theorem dX11_comes_85 : decode cX11_comes 85 = .ok (.iload_n 1, 1) := by decide +kernel
theorem dX11_comes_86 : decode cX11_comes 86 = .ok (.iload 4, 2) := by decide +kernel
theorem dX11_comes_88 : decode cX11_comes 88 = .ok (.isub, 1) := by decide +kernel
theorem dX11_comes_89 : decode cX11_comes 89 = .ok (.iload 6, 2) := by decide +kernel
theorem dX11_comes_91 : decode cX11_comes 91 = .ok (.isub, 1) := by decide +kernel
theorem dX11_comes_92 : decode cX11_comes 92 = .ok (.iload_n 2, 1) := by decide +kernel
theorem dX11_comes_93 : decode cX11_comes 93 = .ok (.invokestatic 92, 3) := by decide +kernel
theorem dX11_comes_96 : decode cX11_comes 96 = .ok (.iaload, 1) := by decide +kernel
theorem dX11_comes_97 : decode cX11_comes 97 = .ok (.iadd, 1) := by decide +kernel
theorem dX11_comes_98 : decode cX11_comes 98 = .ok (.goto 40, 3) := by decide +kernel
theorem dX11_comes_101 : decode cX11_comes 101 = .ok (.iload 5, 2) := by decide +kernel
theorem dX11_comes_103 : decode cX11_comes 103 = .ok (.aload_n 0, 1) := by decide +kernel
theorem dX11_comes_104 : decode cX11_comes 104 = .ok (.getfield 35, 3) := by decide +kernel
theorem dX11_comes_107 : decode cX11_comes 107 = .ok (.iload_n 1, 1) := by decide +kernel
theorem dX11_comes_108 : decode cX11_comes 108 = .ok (.iload 4, 2) := by decide +kernel
theorem dX11_comes_110 : decode cX11_comes 110 = .ok (.bipush 100, 2) := by decide +kernel
theorem dX11_comes_112 : decode cX11_comes 112 = .ok (.isub, 1) := by decide +kernel
theorem dX11_comes_113 : decode cX11_comes 113 = .ok (.invokestatic 92, 3) := by decide +kernel
theorem dX11_comes_116 : decode cX11_comes 116 = .ok (.iaload, 1) := by decide +kernel
theorem dX11_comes_117 : decode cX11_comes 117 = .ok (.iadd, 1) := by decide +kernel
theorem dX11_comes_118 : decode cX11_comes 118 = .ok (.aload_n 0, 1) := by decide +kernel
theorem dX11_comes_119 : decode cX11_comes 119 = .ok (.getfield 35, 3) := by decide +kernel
theorem dX11_comes_122 : decode cX11_comes 122 = .ok (.iload_n 1, 1) := by decide +kernel
theorem dX11_comes_123 : decode cX11_comes 123 = .ok (.iload_n 2, 1) := by decide +kernel
theorem dX11_comes_124 : decode cX11_comes 124 = .ok (.iload 4, 2) := by decide +kernel
theorem dX11_comes_126 : decode cX11_comes 126 = .ok (.isub, 1) := by decide +kernel
theorem dX11_comes_127 : decode cX11_comes 127 = .ok (.bipush 100, 2) := by decide +kernel
theorem dX11_comes_129 : decode cX11_comes 129 = .ok (.iadd, 1) := by decide +kernel
theorem dX11_comes_130 : decode cX11_comes 130 = .ok (.iload 6, 2) := by decide +kernel
theorem dX11_comes_132 : decode cX11_comes 132 = .ok (.isub, 1) := by decide +kernel
theorem dX11_comes_133 : decode cX11_comes 133 = .ok (.invokestatic 92, 3) := by decide +kernel
theorem dX11_comes_136 : decode cX11_comes 136 = .ok (.iaload, 1) := by decide +kernel
theorem dX11_comes_137 : decode cX11_comes 137 = .ok (.iadd, 1) := by decide +kernel
theorem dX11_comes_138 : decode cX11_comes 138 = .ok (.ireturn, 1) := by decide +kernel
theorem dX11_cuts_0 : decode cX11_cuts 0 = .ok (.iload_n 1, 1) := by decide +kernel
theorem dX11_cuts_1 : decode cX11_cuts 1 = .ok (.iload_n 2, 1) := by decide +kernel
theorem dX11_cuts_2 : decode cX11_cuts 2 = .ok (.invokestatic 103, 3) := by decide +kernel
theorem dX11_cuts_5 : decode cX11_cuts 5 = .ok (.ifCond .eq 19, 3) := by decide +kernel
theorem dX11_cuts_8 : decode cX11_cuts 8 = .ok (.iload_n 3, 1) := by decide +kernel
theorem dX11_cuts_9 : decode cX11_cuts 9 = .ok (.iconst (-1), 1) := by decide +kernel
theorem dX11_cuts_10 : decode cX11_cuts 10 = .ok (.aload_n 0, 1) := by decide +kernel
theorem dX11_cuts_11 : decode cX11_cuts 11 = .ok (.getfield 7, 3) := by decide +kernel
theorem dX11_cuts_14 : decode cX11_cuts 14 = .ok (.iconst 4, 1) := by decide +kernel
theorem dX11_cuts_15 : decode cX11_cuts 15 = .ok (.iaload, 1) := by decide +kernel
theorem dX11_cuts_16 : decode cX11_cuts 16 = .ok (.iconst 1, 1) := by decide +kernel
theorem dX11_cuts_17 : decode cX11_cuts 17 = .ok (.isub, 1) := by decide +kernel
theorem dX11_cuts_18 : decode cX11_cuts 18 = .ok (.invokestatic 38, 3) := by decide +kernel
theorem dX11_cuts_21 : decode cX11_cuts 21 = .ok (.ifCond .ne 5, 3) := by decide +kernel
theorem dX11_cuts_24 : decode cX11_cuts 24 = .ok (.iconst (-1), 1) := by decide +kernel
theorem dX11_cuts_25 : decode cX11_cuts 25 = .ok (.ireturn, 1) := by decide +kernel
theorem dX11_cuts_26 : decode cX11_cuts 26 = .ok (.aload_n 0, 1) := by decide +kernel
theorem dX11_cuts_27 : decode cX11_cuts 27 = .ok (.iload_n 1, 1) := by decide +kernel
theorem dX11_cuts_28 : decode cX11_cuts 28 = .ok (.iload_n 2, 1) := by decide +kernel
theorem dX11_cuts_29 : decode cX11_cuts 29 = .ok (.invokevirtual 106, 3) := by decide +kernel
theorem dX11_cuts_32 : decode cX11_cuts 32 = .ok (.iconst 1, 1) := by decide +kernel
theorem dX11_cuts_33 : decode cX11_cuts 33 = .ok (.istore 4, 2) := by decide +kernel
theorem dX11_cuts_35 : decode cX11_cuts 35 = .ok (.iload 4, 2) := by decide +kernel
theorem dX11_cuts_37 : decode cX11_cuts 37 = .ok (.iload_n 1, 1) := by decide +kernel
theorem dX11_cuts_38 : decode cX11_cuts 38 = .ok (.if_icmp .gt 45, 3) := by decide +kernel
theorem dX11_cuts_41 : decode cX11_cuts 41 = .ok (.iconst 1, 1) := by decide +kernel
theorem dX11_cuts_42 : decode cX11_cuts 42 = .ok (.istore 5, 2) := by decide +kernel
theorem dX11_cuts_44 : decode cX11_cuts 44 = .ok (.iload 5, 2) := by decide +kernel
theorem dX11_cuts_46 : decode cX11_cuts 46 = .ok (.iload_n 2, 1) := by decide +kernel
theorem dX11_cuts_47 : decode cX11_cuts 47 = .ok (.if_icmp .gt 30, 3) := by decide +kernel
theorem dX11_cuts_50 : decode cX11_cuts 50 = .ok (.aload_n 0, 1) := by decide +kernel
theorem dX11_cuts_51 : decode cX11_cuts 51 = .ok (.getfield 35, 3) := by decide +kernel
theorem dX11_cuts_54 : decode cX11_cuts 54 = .ok (.iload 4, 2) := by decide +kernel
theorem dX11_cuts_56 : decode cX11_cuts 56 = .ok (.iload 5, 2) := by decide +kernel
theorem dX11_cuts_58 : decode cX11_cuts 58 = .ok (.invokestatic 92, 3) := by decide +kernel
theorem dX11_cuts_61 : decode cX11_cuts 61 = .ok (.aload_n 0, 1) := by decide +kernel
theorem dX11_cuts_62 : decode cX11_cuts 62 = .ok (.iload 4, 2) := by decide +kernel
theorem dX11_cuts_64 : decode cX11_cuts 64 = .ok (.iload 5, 2) := by decide +kernel
theorem dX11_cuts_66 : decode cX11_cuts 66 = .ok (.iload_n 3, 1) := by decide +kernel
theorem dX11_cuts_67 : decode cX11_cuts 67 = .ok (.invokevirtual 109, 3) := by decide +kernel
theorem dX11_cuts_70 : decode cX11_cuts 70 = .ok (.iastore, 1) := by decide +kernel
theorem dX11_cuts_71 : decode cX11_cuts 71 = .ok (.iinc 5 1, 3) := by decide +kernel
theorem dX11_cuts_74 : decode cX11_cuts 74 = .ok (.goto (-30), 3) := by decide +kernel
theorem dX11_cuts_77 : decode cX11_cuts 77 = .ok (.iinc 4 1, 3) := by decide +kernel
theorem dX11_cuts_80 : decode cX11_cuts 80 = .ok (.goto (-45), 3) := by decide +kernel
theorem dX11_cuts_83 : decode cX11_cuts 83 = .ok (.aload_n 0, 1) := by decide +kernel
theorem dX11_cuts_84 : decode cX11_cuts 84 = .ok (.getfield 35, 3) := by decide +kernel
theorem dX11_cuts_87 : decode cX11_cuts 87 = .ok (.iload_n 1, 1) := by decide +kernel
theorem dX11_cuts_88 : decode cX11_cuts 88 = .ok (.iload_n 2, 1) := by decide +kernel
theorem dX11_cuts_89 : decode cX11_cuts 89 = .ok (.invokestatic 92, 3) := by decide +kernel
theorem dX11_cuts_92 : decode cX11_cuts 92 = .ok (.iaload, 1) := by decide +kernel
theorem dX11_cuts_93 : decode cX11_cuts 93 = .ok (.ireturn, 1) := by decide +kernel
theorem dX11_count_0 : decode cX11_count 0 = .ok (.iconst 0, 1) := by decide +kernel
theorem dX11_count_1 : decode cX11_count 1 = .ok (.istore_n 2, 1) := by decide +kernel
theorem dX11_count_2 : decode cX11_count 2 = .ok (.iconst 0, 1) := by decide +kernel
theorem dX11_count_3 : decode cX11_count 3 = .ok (.istore_n 3, 1) := by decide +kernel
theorem dX11_count_4 : decode cX11_count 4 = .ok (.iconst 0, 1) := by decide +kernel
theorem dX11_count_5 : decode cX11_count 5 = .ok (.istore 4, 2) := by decide +kernel
theorem dX11_count_7 : decode cX11_count 7 = .ok (.iload 4, 2) := by decide +kernel
theorem dX11_count_9 : decode cX11_count 9 = .ok (.aload_n 0, 1) := by decide +kernel
theorem dX11_count_10 : decode cX11_count 10 = .ok (.getfield 7, 3) := by decide +kernel
theorem dX11_count_13 : decode cX11_count 13 = .ok (.iconst 0, 1) := by decide +kernel
theorem dX11_count_14 : decode cX11_count 14 = .ok (.iaload, 1) := by decide +kernel
theorem dX11_count_15 : decode cX11_count 15 = .ok (.if_icmp .ge 24, 3) := by decide +kernel
theorem dX11_count_18 : decode cX11_count 18 = .ok (.iload_n 2, 1) := by decide +kernel
theorem dX11_count_19 : decode cX11_count 19 = .ok (.aload_n 0, 1) := by decide +kernel
theorem dX11_count_20 : decode cX11_count 20 = .ok (.getfield 7, 3) := by decide +kernel
theorem dX11_count_23 : decode cX11_count 23 = .ok (.bipush 10, 2) := by decide +kernel
theorem dX11_count_25 : decode cX11_count 25 = .ok (.iconst 3, 1) := by decide +kernel
theorem dX11_count_26 : decode cX11_count 26 = .ok (.iload 4, 2) := by decide +kernel
theorem dX11_count_28 : decode cX11_count 28 = .ok (.imul, 1) := by decide +kernel
theorem dX11_count_29 : decode cX11_count 29 = .ok (.iadd, 1) := by decide +kernel
theorem dX11_count_30 : decode cX11_count 30 = .ok (.iaload, 1) := by decide +kernel
theorem dX11_count_31 : decode cX11_count 31 = .ok (.iadd, 1) := by decide +kernel
theorem dX11_count_32 : decode cX11_count 32 = .ok (.istore_n 2, 1) := by decide +kernel
theorem dX11_count_33 : decode cX11_count 33 = .ok (.iinc 4 1, 3) := by decide +kernel
theorem dX11_count_36 : decode cX11_count 36 = .ok (.goto (-29), 3) := by decide +kernel
theorem dX11_count_39 : decode cX11_count 39 = .ok (.iconst 0, 1) := by decide +kernel
theorem dX11_count_40 : decode cX11_count 40 = .ok (.istore 4, 2) := by decide +kernel
theorem dX11_count_42 : decode cX11_count 42 = .ok (.iload 4, 2) := by decide +kernel
theorem dX11_count_44 : decode cX11_count 44 = .ok (.aload_n 0, 1) := by decide +kernel
theorem dX11_count_45 : decode cX11_count 45 = .ok (.getfield 7, 3) := by decide +kernel
theorem dX11_count_48 : decode cX11_count 48 = .ok (.iconst 2, 1) := by decide +kernel
theorem dX11_count_49 : decode cX11_count 49 = .ok (.iaload, 1) := by decide +kernel
theorem dX11_count_50 : decode cX11_count 50 = .ok (.if_icmp .ge 36, 3) := by decide +kernel
theorem dX11_count_53 : decode cX11_count 53 = .ok (.iload_n 3, 1) := by decide +kernel
theorem dX11_count_54 : decode cX11_count 54 = .ok (.aload_n 0, 1) := by decide +kernel
theorem dX11_count_55 : decode cX11_count 55 = .ok (.getfield 7, 3) := by decide +kernel
theorem dX11_count_58 : decode cX11_count 58 = .ok (.bipush 50, 2) := by decide +kernel
theorem dX11_count_60 : decode cX11_count 60 = .ok (.bipush 8, 2) := by decide +kernel
theorem dX11_count_62 : decode cX11_count 62 = .ok (.iload 4, 2) := by decide +kernel
theorem dX11_count_64 : decode cX11_count 64 = .ok (.imul, 1) := by decide +kernel
theorem dX11_count_65 : decode cX11_count 65 = .ok (.iadd, 1) := by decide +kernel
theorem dX11_count_66 : decode cX11_count 66 = .ok (.bipush 7, 2) := by decide +kernel
theorem dX11_count_68 : decode cX11_count 68 = .ok (.iadd, 1) := by decide +kernel
theorem dX11_count_69 : decode cX11_count 69 = .ok (.iaload, 1) := by decide +kernel
theorem dX11_count_70 : decode cX11_count 70 = .ok (.ifCond .lt 7, 3) := by decide +kernel
theorem dX11_count_73 : decode cX11_count 73 = .ok (.iconst 1, 1) := by decide +kernel
theorem dX11_count_74 : decode cX11_count 74 = .ok (.goto 4, 3) := by decide +kernel
theorem dX11_count_77 : decode cX11_count 77 = .ok (.iconst 0, 1) := by decide +kernel
theorem dX11_count_78 : decode cX11_count 78 = .ok (.iadd, 1) := by decide +kernel
theorem dX11_count_79 : decode cX11_count 79 = .ok (.istore_n 3, 1) := by decide +kernel
theorem dX11_count_80 : decode cX11_count 80 = .ok (.iinc 4 1, 3) := by decide +kernel
theorem dX11_count_83 : decode cX11_count 83 = .ok (.goto (-41), 3) := by decide +kernel
theorem dX11_count_86 : decode cX11_count 86 = .ok (.iload_n 1, 1) := by decide +kernel
theorem dX11_count_87 : decode cX11_count 87 = .ok (.iconst 0, 1) := by decide +kernel
theorem dX11_count_88 : decode cX11_count 88 = .ok (.iconst 4, 1) := by decide +kernel
theorem dX11_count_89 : decode cX11_count 89 = .ok (.invokestatic 38, 3) := by decide +kernel
theorem dX11_count_92 : decode cX11_count 92 = .ok (.ifCond .eq 10, 3) := by decide +kernel
theorem dX11_count_95 : decode cX11_count 95 = .ok (.aload_n 0, 1) := by decide +kernel
theorem dX11_count_96 : decode cX11_count 96 = .ok (.getfield 7, 3) := by decide +kernel
theorem dX11_count_99 : decode cX11_count 99 = .ok (.iload_n 1, 1) := by decide +kernel
theorem dX11_count_100 : decode cX11_count 100 = .ok (.iaload, 1) := by decide +kernel
theorem dX11_count_101 : decode cX11_count 101 = .ok (.ireturn, 1) := by decide +kernel
theorem dX11_count_102 : decode cX11_count 102 = .ok (.iload_n 1, 1) := by decide +kernel
theorem dX11_count_103 : decode cX11_count 103 = .ok (.bipush 10, 2) := by decide +kernel
theorem dX11_count_105 : decode cX11_count 105 = .ok (.bipush 15, 2) := by decide +kernel
theorem dX11_count_107 : decode cX11_count 107 = .ok (.invokestatic 38, 3) := by decide +kernel
theorem dX11_count_110 : decode cX11_count 110 = .ok (.ifCond .eq 34, 3) := by decide +kernel
theorem dX11_count_113 : decode cX11_count 113 = .ok (.aload_n 0, 1) := by decide +kernel
theorem dX11_count_114 : decode cX11_count 114 = .ok (.iload_n 1, 1) := by decide +kernel
theorem dX11_count_115 : decode cX11_count 115 = .ok (.bipush 10, 2) := by decide +kernel
theorem dX11_count_117 : decode cX11_count 117 = .ok (.isub, 1) := by decide +kernel
theorem dX11_count_118 : decode cX11_count 118 = .ok (.iconst 0, 1) := by decide +kernel
theorem dX11_count_119 : decode cX11_count 119 = .ok (.invokevirtual 42, 3) := by decide +kernel
theorem dX11_count_122 : decode cX11_count 122 = .ok (.ifCond .eq 20, 3) := by decide +kernel
theorem dX11_count_125 : decode cX11_count 125 = .ok (.aload_n 0, 1) := by decide +kernel
theorem dX11_count_126 : decode cX11_count 126 = .ok (.getfield 7, 3) := by decide +kernel
theorem dX11_count_129 : decode cX11_count 129 = .ok (.bipush 10, 2) := by decide +kernel
theorem dX11_count_131 : decode cX11_count 131 = .ok (.iconst 3, 1) := by decide +kernel
theorem dX11_count_132 : decode cX11_count 132 = .ok (.iload_n 1, 1) := by decide +kernel
theorem dX11_count_133 : decode cX11_count 133 = .ok (.bipush 10, 2) := by decide +kernel
theorem dX11_count_135 : decode cX11_count 135 = .ok (.isub, 1) := by decide +kernel
theorem dX11_count_136 : decode cX11_count 136 = .ok (.imul, 1) := by decide +kernel
theorem dX11_count_137 : decode cX11_count 137 = .ok (.iadd, 1) := by decide +kernel
theorem dX11_count_138 : decode cX11_count 138 = .ok (.iaload, 1) := by decide +kernel
theorem dX11_count_139 : decode cX11_count 139 = .ok (.goto 4, 3) := by decide +kernel
theorem dX11_count_142 : decode cX11_count 142 = .ok (.iconst (-1), 1) := by decide +kernel
theorem dX11_count_143 : decode cX11_count 143 = .ok (.ireturn, 1) := by decide +kernel
theorem dX11_count_144 : decode cX11_count 144 = .ok (.iload_n 1, 1) := by decide +kernel
theorem dX11_count_145 : decode cX11_count 145 = .ok (.bipush 20, 2) := by decide +kernel
theorem dX11_count_147 : decode cX11_count 147 = .ok (.bipush 27, 2) := by decide +kernel
theorem dX11_count_149 : decode cX11_count 149 = .ok (.invokestatic 38, 3) := by decide +kernel
theorem dX11_count_152 : decode cX11_count 152 = .ok (.ifCond .eq 32, 3) := by decide +kernel
theorem dX11_count_155 : decode cX11_count 155 = .ok (.aload_n 0, 1) := by decide +kernel
theorem dX11_count_156 : decode cX11_count 156 = .ok (.iload_n 1, 1) := by decide +kernel
theorem dX11_count_157 : decode cX11_count 157 = .ok (.bipush 20, 2) := by decide +kernel
theorem dX11_count_159 : decode cX11_count 159 = .ok (.isub, 1) := by decide +kernel
theorem dX11_count_160 : decode cX11_count 160 = .ok (.iconst 1, 1) := by decide +kernel
theorem dX11_count_161 : decode cX11_count 161 = .ok (.invokevirtual 42, 3) := by decide +kernel
theorem dX11_count_164 : decode cX11_count 164 = .ok (.ifCond .eq 18, 3) := by decide +kernel
theorem dX11_count_167 : decode cX11_count 167 = .ok (.aload_n 0, 1) := by decide +kernel
theorem dX11_count_168 : decode cX11_count 168 = .ok (.getfield 7, 3) := by decide +kernel
theorem dX11_count_171 : decode cX11_count 171 = .ok (.bipush 30, 2) := by decide +kernel
theorem dX11_count_173 : decode cX11_count 173 = .ok (.iload_n 1, 1) := by decide +kernel
theorem dX11_count_174 : decode cX11_count 174 = .ok (.iadd, 1) := by decide +kernel
theorem dX11_count_175 : decode cX11_count 175 = .ok (.bipush 20, 2) := by decide +kernel
theorem dX11_count_177 : decode cX11_count 177 = .ok (.isub, 1) := by decide +kernel
theorem dX11_count_178 : decode cX11_count 178 = .ok (.iaload, 1) := by decide +kernel
theorem dX11_count_179 : decode cX11_count 179 = .ok (.goto 4, 3) := by decide +kernel
theorem dX11_count_182 : decode cX11_count 182 = .ok (.iconst (-1), 1) := by decide +kernel
theorem dX11_count_183 : decode cX11_count 183 = .ok (.ireturn, 1) := by decide +kernel
theorem dX11_count_184 : decode cX11_count 184 = .ok (.iload_n 1, 1) := by decide +kernel
theorem dX11_count_185 : decode cX11_count 185 = .ok (.iconst 5, 1) := by decide +kernel
theorem dX11_count_186 : decode cX11_count 186 = .ok (.if_icmp .ne 7, 3) := by decide +kernel
theorem dX11_count_189 : decode cX11_count 189 = .ok (.iload_n 2, 1) := by decide +kernel
theorem dX11_count_190 : decode cX11_count 190 = .ok (.goto 27, 3) := by decide +kernel
theorem dX11_count_193 : decode cX11_count 193 = .ok (.iload_n 1, 1) := by decide +kernel
theorem dX11_count_194 : decode cX11_count 194 = .ok (.bipush 6, 2) := by decide +kernel
theorem dX11_count_196 : decode cX11_count 196 = .ok (.if_icmp .ne 10, 3) := by decide +kernel
theorem dX11_count_199 : decode cX11_count 199 = .ok (.aload_n 0, 1) := by decide +kernel
theorem dX11_count_200 : decode cX11_count 200 = .ok (.invokevirtual 55, 3) := by decide +kernel
theorem dX11_count_203 : decode cX11_count 203 = .ok (.goto 14, 3) := by decide +kernel
theorem dX11_count_206 : decode cX11_count 206 = .ok (.iload_n 1, 1) := by decide +kernel
theorem dX11_count_207 : decode cX11_count 207 = .ok (.bipush 7, 2) := by decide +kernel
theorem dX11_count_209 : decode cX11_count 209 = .ok (.if_icmp .ne 7, 3) := by decide +kernel
theorem dX11_count_212 : decode cX11_count 212 = .ok (.iload_n 3, 1) := by decide +kernel
theorem dX11_count_213 : decode cX11_count 213 = .ok (.goto 4, 3) := by decide +kernel
theorem dX11_count_216 : decode cX11_count 216 = .ok (.iconst (-1), 1) := by decide +kernel
theorem dX11_count_217 : decode cX11_count 217 = .ok (.ireturn, 1) := by decide +kernel
theorem dX11_image_0 : decode cX11_image 0 = .ok (.iload_n 1, 1) := by decide +kernel
theorem dX11_image_1 : decode cX11_image 1 = .ok (.iconst 0, 1) := by decide +kernel
theorem dX11_image_2 : decode cX11_image 2 = .ok (.iconst 2, 1) := by decide +kernel
theorem dX11_image_3 : decode cX11_image 3 = .ok (.invokestatic 38, 3) := by decide +kernel
theorem dX11_image_6 : decode cX11_image 6 = .ok (.ifCond .ne 5, 3) := by decide +kernel
theorem dX11_image_9 : decode cX11_image 9 = .ok (.iconst 0, 1) := by decide +kernel
theorem dX11_image_10 : decode cX11_image 10 = .ok (.ireturn, 1) := by decide +kernel
theorem dX11_image_11 : decode cX11_image 11 = .ok (.aload_n 0, 1) := by decide +kernel
theorem dX11_image_12 : decode cX11_image 12 = .ok (.getfield 13, 3) := by decide +kernel
theorem dX11_image_15 : decode cX11_image 15 = .ok (.iload_n 1, 1) := by decide +kernel
theorem dX11_image_16 : decode cX11_image 16 = .ok (.iconst 1, 1) := by decide +kernel
theorem dX11_image_17 : decode cX11_image 17 = .ok (.bastore, 1) := by decide +kernel
theorem dX11_image_18 : decode cX11_image 18 = .ok (.iconst 0, 1) := by decide +kernel
theorem dX11_image_19 : decode cX11_image 19 = .ok (.istore_n 2, 1) := by decide +kernel
theorem dX11_image_20 : decode cX11_image 20 = .ok (.iload_n 2, 1) := by decide +kernel
theorem dX11_image_21 : decode cX11_image 21 = .ok (.sipush 320, 3) := by decide +kernel
theorem dX11_image_24 : decode cX11_image 24 = .ok (.if_icmp .ge 29, 3) := by decide +kernel
theorem dX11_image_27 : decode cX11_image 27 = .ok (.aload_n 0, 1) := by decide +kernel
theorem dX11_image_28 : decode cX11_image 28 = .ok (.getfield 7, 3) := by decide +kernel
theorem dX11_image_31 : decode cX11_image 31 = .ok (.sipush 320, 3) := by decide +kernel
theorem dX11_image_34 : decode cX11_image 34 = .ok (.iload_n 1, 1) := by decide +kernel
theorem dX11_image_35 : decode cX11_image 35 = .ok (.iconst 1, 1) := by decide +kernel
theorem dX11_image_36 : decode cX11_image 36 = .ok (.iadd, 1) := by decide +kernel
theorem dX11_image_37 : decode cX11_image 37 = .ok (.imul, 1) := by decide +kernel
theorem dX11_image_38 : decode cX11_image 38 = .ok (.iload_n 2, 1) := by decide +kernel
theorem dX11_image_39 : decode cX11_image 39 = .ok (.iadd, 1) := by decide +kernel
theorem dX11_image_40 : decode cX11_image 40 = .ok (.aload_n 0, 1) := by decide +kernel
theorem dX11_image_41 : decode cX11_image 41 = .ok (.getfield 7, 3) := by decide +kernel
theorem dX11_image_44 : decode cX11_image 44 = .ok (.iload_n 2, 1) := by decide +kernel
theorem dX11_image_45 : decode cX11_image 45 = .ok (.iaload, 1) := by decide +kernel
theorem dX11_image_46 : decode cX11_image 46 = .ok (.iastore, 1) := by decide +kernel
theorem dX11_image_47 : decode cX11_image 47 = .ok (.iinc 2 1, 3) := by decide +kernel
theorem dX11_image_50 : decode cX11_image 50 = .ok (.goto (-30), 3) := by decide +kernel
theorem dX11_image_53 : decode cX11_image 53 = .ok (.iconst 1, 1) := by decide +kernel
theorem dX11_image_54 : decode cX11_image 54 = .ok (.ireturn, 1) := by decide +kernel
theorem dX11_again_0 : decode cX11_again 0 = .ok (.iload_n 1, 1) := by decide +kernel
theorem dX11_again_1 : decode cX11_again 1 = .ok (.iconst 0, 1) := by decide +kernel
theorem dX11_again_2 : decode cX11_again 2 = .ok (.iconst 2, 1) := by decide +kernel
theorem dX11_again_3 : decode cX11_again 3 = .ok (.invokestatic 38, 3) := by decide +kernel
theorem dX11_again_6 : decode cX11_again 6 = .ok (.ifCond .eq 12, 3) := by decide +kernel
theorem dX11_again_9 : decode cX11_again 9 = .ok (.aload_n 0, 1) := by decide +kernel
theorem dX11_again_10 : decode cX11_again 10 = .ok (.getfield 13, 3) := by decide +kernel
theorem dX11_again_13 : decode cX11_again 13 = .ok (.iload_n 1, 1) := by decide +kernel
theorem dX11_again_14 : decode cX11_again 14 = .ok (.baload, 1) := by decide +kernel
theorem dX11_again_15 : decode cX11_again 15 = .ok (.ifCond .ne 5, 3) := by decide +kernel
theorem dX11_again_18 : decode cX11_again 18 = .ok (.iconst 0, 1) := by decide +kernel
theorem dX11_again_19 : decode cX11_again 19 = .ok (.ireturn, 1) := by decide +kernel
theorem dX11_again_20 : decode cX11_again 20 = .ok (.iconst 0, 1) := by decide +kernel
theorem dX11_again_21 : decode cX11_again 21 = .ok (.istore_n 2, 1) := by decide +kernel
theorem dX11_again_22 : decode cX11_again 22 = .ok (.iload_n 2, 1) := by decide +kernel
theorem dX11_again_23 : decode cX11_again 23 = .ok (.sipush 320, 3) := by decide +kernel
theorem dX11_again_26 : decode cX11_again 26 = .ok (.if_icmp .ge 29, 3) := by decide +kernel
theorem dX11_again_29 : decode cX11_again 29 = .ok (.aload_n 0, 1) := by decide +kernel
theorem dX11_again_30 : decode cX11_again 30 = .ok (.getfield 7, 3) := by decide +kernel
theorem dX11_again_33 : decode cX11_again 33 = .ok (.iload_n 2, 1) := by decide +kernel
theorem dX11_again_34 : decode cX11_again 34 = .ok (.aload_n 0, 1) := by decide +kernel
theorem dX11_again_35 : decode cX11_again 35 = .ok (.getfield 7, 3) := by decide +kernel
theorem dX11_again_38 : decode cX11_again 38 = .ok (.sipush 320, 3) := by decide +kernel
theorem dX11_again_41 : decode cX11_again 41 = .ok (.iload_n 1, 1) := by decide +kernel
theorem dX11_again_42 : decode cX11_again 42 = .ok (.iconst 1, 1) := by decide +kernel
theorem dX11_again_43 : decode cX11_again 43 = .ok (.iadd, 1) := by decide +kernel
theorem dX11_again_44 : decode cX11_again 44 = .ok (.imul, 1) := by decide +kernel
theorem dX11_again_45 : decode cX11_again 45 = .ok (.iload_n 2, 1) := by decide +kernel
theorem dX11_again_46 : decode cX11_again 46 = .ok (.iadd, 1) := by decide +kernel
theorem dX11_again_47 : decode cX11_again 47 = .ok (.iaload, 1) := by decide +kernel
theorem dX11_again_48 : decode cX11_again 48 = .ok (.iastore, 1) := by decide +kernel
theorem dX11_again_49 : decode cX11_again 49 = .ok (.iinc 2 1, 3) := by decide +kernel
theorem dX11_again_52 : decode cX11_again 52 = .ok (.goto (-30), 3) := by decide +kernel
theorem dX11_again_55 : decode cX11_again 55 = .ok (.iconst 1, 1) := by decide +kernel
theorem dX11_again_56 : decode cX11_again 56 = .ok (.ireturn, 1) := by decide +kernel
theorem dL_law_0 : decode cL_law 0 = .ok (.new 7, 3) := by decide +kernel
theorem dL_law_3 : decode cL_law 3 = .ok (.dup, 1) := by decide +kernel
theorem dL_law_4 : decode cL_law 4 = .ok (.invokespecial 9, 3) := by decide +kernel
theorem dL_law_7 : decode cL_law 7 = .ok (.astore_n 1, 1) := by decide +kernel
theorem dL_law_8 : decode cL_law 8 = .ok (.new 10, 3) := by decide +kernel
theorem dL_law_11 : decode cL_law 11 = .ok (.dup, 1) := by decide +kernel
theorem dL_law_12 : decode cL_law 12 = .ok (.invokespecial 12, 3) := by decide +kernel
theorem dL_law_15 : decode cL_law 15 = .ok (.astore_n 2, 1) := by decide +kernel
theorem dL_law_16 : decode cL_law 16 = .ok (.iconst 0, 1) := by decide +kernel
theorem dL_law_17 : decode cL_law 17 = .ok (.istore_n 3, 1) := by decide +kernel
theorem dL_law_18 : decode cL_law 18 = .ok (.iload_n 3, 1) := by decide +kernel
theorem dL_law_19 : decode cL_law 19 = .ok (.aload_n 0, 1) := by decide +kernel
theorem dL_law_20 : decode cL_law 20 = .ok (.arraylength, 1) := by decide +kernel
theorem dL_law_21 : decode cL_law 21 = .ok (.bipush 6, 2) := by decide +kernel
theorem dL_law_23 : decode cL_law 23 = .ok (.isub, 1) := by decide +kernel
theorem dL_law_24 : decode cL_law 24 = .ok (.if_icmp .gt 872, 3) := by decide +kernel
theorem dL_law_27 : decode cL_law 27 = .ok (.aload_n 0, 1) := by decide +kernel
theorem dL_law_28 : decode cL_law 28 = .ok (.iload_n 3, 1) := by decide +kernel
theorem dL_law_29 : decode cL_law 29 = .ok (.iaload, 1) := by decide +kernel
theorem dL_law_30 : decode cL_law 30 = .ok (.bipush 31, 2) := by decide +kernel
theorem dL_law_32 : decode cL_law 32 = .ok (.iand, 1) := by decide +kernel
theorem dL_law_33 : decode cL_law 33 = .ok (.tableswitch 857 0 21 #[103, 152, 185, 208, 241, 284, 317, 340, 363, 396, 419, 452, 515, 558, 633, 646, 669, 712, 745, 788, 811, 834], 103) := by decide +kernel
theorem dL_law_136 : decode cL_law 136 = .ok (.aload_n 1, 1) := by decide +kernel
theorem dL_law_137 : decode cL_law 137 = .ok (.aload_n 0, 1) := by decide +kernel
theorem dL_law_138 : decode cL_law 138 = .ok (.iload_n 3, 1) := by decide +kernel
theorem dL_law_139 : decode cL_law 139 = .ok (.iconst 1, 1) := by decide +kernel
theorem dL_law_140 : decode cL_law 140 = .ok (.iadd, 1) := by decide +kernel
theorem dL_law_141 : decode cL_law 141 = .ok (.iaload, 1) := by decide +kernel
theorem dL_law_142 : decode cL_law 142 = .ok (.aload_n 0, 1) := by decide +kernel
theorem dL_law_143 : decode cL_law 143 = .ok (.iload_n 3, 1) := by decide +kernel
theorem dL_law_144 : decode cL_law 144 = .ok (.iconst 2, 1) := by decide +kernel
theorem dL_law_145 : decode cL_law 145 = .ok (.iadd, 1) := by decide +kernel
theorem dL_law_146 : decode cL_law 146 = .ok (.iaload, 1) := by decide +kernel
theorem dL_law_147 : decode cL_law 147 = .ok (.ifCond .eq 7, 3) := by decide +kernel
theorem dL_law_150 : decode cL_law 150 = .ok (.iconst 1, 1) := by decide +kernel
theorem dL_law_151 : decode cL_law 151 = .ok (.goto 4, 3) := by decide +kernel
theorem dL_law_154 : decode cL_law 154 = .ok (.iconst 0, 1) := by decide +kernel
theorem dL_law_155 : decode cL_law 155 = .ok (.invokevirtual 13, 3) := by decide +kernel
theorem dL_law_158 : decode cL_law 158 = .ok (.aload_n 2, 1) := by decide +kernel
theorem dL_law_159 : decode cL_law 159 = .ok (.aload_n 0, 1) := by decide +kernel
theorem dL_law_160 : decode cL_law 160 = .ok (.iload_n 3, 1) := by decide +kernel
theorem dL_law_161 : decode cL_law 161 = .ok (.iconst 1, 1) := by decide +kernel
theorem dL_law_162 : decode cL_law 162 = .ok (.iadd, 1) := by decide +kernel
theorem dL_law_163 : decode cL_law 163 = .ok (.iaload, 1) := by decide +kernel
theorem dL_law_164 : decode cL_law 164 = .ok (.aload_n 0, 1) := by decide +kernel
theorem dL_law_165 : decode cL_law 165 = .ok (.iload_n 3, 1) := by decide +kernel
theorem dL_law_166 : decode cL_law 166 = .ok (.iconst 2, 1) := by decide +kernel
theorem dL_law_167 : decode cL_law 167 = .ok (.iadd, 1) := by decide +kernel
theorem dL_law_168 : decode cL_law 168 = .ok (.iaload, 1) := by decide +kernel
theorem dL_law_169 : decode cL_law 169 = .ok (.ifCond .eq 7, 3) := by decide +kernel
theorem dL_law_172 : decode cL_law 172 = .ok (.iconst 1, 1) := by decide +kernel
theorem dL_law_173 : decode cL_law 173 = .ok (.goto 4, 3) := by decide +kernel
theorem dL_law_176 : decode cL_law 176 = .ok (.iconst 0, 1) := by decide +kernel
theorem dL_law_177 : decode cL_law 177 = .ok (.invokevirtual 17, 3) := by decide +kernel
theorem dL_law_180 : decode cL_law 180 = .ok (.if_icmp .eq 710, 3) := by decide +kernel
theorem dL_law_183 : decode cL_law 183 = .ok (.iconst 0, 1) := by decide +kernel
theorem dL_law_184 : decode cL_law 184 = .ok (.ireturn, 1) := by decide +kernel
theorem dL_law_185 : decode cL_law 185 = .ok (.aload_n 1, 1) := by decide +kernel
theorem dL_law_186 : decode cL_law 186 = .ok (.aload_n 0, 1) := by decide +kernel
theorem dL_law_187 : decode cL_law 187 = .ok (.iload_n 3, 1) := by decide +kernel
theorem dL_law_188 : decode cL_law 188 = .ok (.iconst 1, 1) := by decide +kernel
theorem dL_law_189 : decode cL_law 189 = .ok (.iadd, 1) := by decide +kernel
theorem dL_law_190 : decode cL_law 190 = .ok (.iaload, 1) := by decide +kernel
theorem dL_law_191 : decode cL_law 191 = .ok (.aload_n 0, 1) := by decide +kernel
theorem dL_law_192 : decode cL_law 192 = .ok (.iload_n 3, 1) := by decide +kernel
theorem dL_law_193 : decode cL_law 193 = .ok (.iconst 2, 1) := by decide +kernel
theorem dL_law_194 : decode cL_law 194 = .ok (.iadd, 1) := by decide +kernel
theorem dL_law_195 : decode cL_law 195 = .ok (.iaload, 1) := by decide +kernel
theorem dL_law_196 : decode cL_law 196 = .ok (.invokevirtual 18, 3) := by decide +kernel
theorem dL_law_199 : decode cL_law 199 = .ok (.aload_n 2, 1) := by decide +kernel
theorem dL_law_200 : decode cL_law 200 = .ok (.aload_n 0, 1) := by decide +kernel
theorem dL_law_201 : decode cL_law 201 = .ok (.iload_n 3, 1) := by decide +kernel
theorem dL_law_202 : decode cL_law 202 = .ok (.iconst 1, 1) := by decide +kernel
theorem dL_law_203 : decode cL_law 203 = .ok (.iadd, 1) := by decide +kernel
theorem dL_law_204 : decode cL_law 204 = .ok (.iaload, 1) := by decide +kernel
theorem dL_law_205 : decode cL_law 205 = .ok (.aload_n 0, 1) := by decide +kernel
theorem dL_law_206 : decode cL_law 206 = .ok (.iload_n 3, 1) := by decide +kernel
theorem dL_law_207 : decode cL_law 207 = .ok (.iconst 2, 1) := by decide +kernel
theorem dL_law_208 : decode cL_law 208 = .ok (.iadd, 1) := by decide +kernel
theorem dL_law_209 : decode cL_law 209 = .ok (.iaload, 1) := by decide +kernel
theorem dL_law_210 : decode cL_law 210 = .ok (.invokevirtual 22, 3) := by decide +kernel
theorem dL_law_213 : decode cL_law 213 = .ok (.if_icmp .eq 677, 3) := by decide +kernel
theorem dL_law_216 : decode cL_law 216 = .ok (.iconst 0, 1) := by decide +kernel
theorem dL_law_217 : decode cL_law 217 = .ok (.ireturn, 1) := by decide +kernel
theorem dL_law_218 : decode cL_law 218 = .ok (.aload_n 1, 1) := by decide +kernel
theorem dL_law_219 : decode cL_law 219 = .ok (.aload_n 0, 1) := by decide +kernel
theorem dL_law_220 : decode cL_law 220 = .ok (.iload_n 3, 1) := by decide +kernel
theorem dL_law_221 : decode cL_law 221 = .ok (.iconst 1, 1) := by decide +kernel
theorem dL_law_222 : decode cL_law 222 = .ok (.iadd, 1) := by decide +kernel
theorem dL_law_223 : decode cL_law 223 = .ok (.iaload, 1) := by decide +kernel
theorem dL_law_224 : decode cL_law 224 = .ok (.invokevirtual 23, 3) := by decide +kernel
theorem dL_law_227 : decode cL_law 227 = .ok (.aload_n 2, 1) := by decide +kernel
theorem dL_law_228 : decode cL_law 228 = .ok (.aload_n 0, 1) := by decide +kernel
theorem dL_law_229 : decode cL_law 229 = .ok (.iload_n 3, 1) := by decide +kernel
theorem dL_law_230 : decode cL_law 230 = .ok (.iconst 1, 1) := by decide +kernel
theorem dL_law_231 : decode cL_law 231 = .ok (.iadd, 1) := by decide +kernel
theorem dL_law_232 : decode cL_law 232 = .ok (.iaload, 1) := by decide +kernel
theorem dL_law_233 : decode cL_law 233 = .ok (.invokevirtual 27, 3) := by decide +kernel
theorem dL_law_236 : decode cL_law 236 = .ok (.if_icmp .eq 654, 3) := by decide +kernel
theorem dL_law_239 : decode cL_law 239 = .ok (.iconst 0, 1) := by decide +kernel
theorem dL_law_240 : decode cL_law 240 = .ok (.ireturn, 1) := by decide +kernel
theorem dL_law_241 : decode cL_law 241 = .ok (.aload_n 1, 1) := by decide +kernel
theorem dL_law_242 : decode cL_law 242 = .ok (.aload_n 0, 1) := by decide +kernel
theorem dL_law_243 : decode cL_law 243 = .ok (.iload_n 3, 1) := by decide +kernel
theorem dL_law_244 : decode cL_law 244 = .ok (.iconst 1, 1) := by decide +kernel
theorem dL_law_245 : decode cL_law 245 = .ok (.iadd, 1) := by decide +kernel
theorem dL_law_246 : decode cL_law 246 = .ok (.iaload, 1) := by decide +kernel
theorem dL_law_247 : decode cL_law 247 = .ok (.aload_n 0, 1) := by decide +kernel
theorem dL_law_248 : decode cL_law 248 = .ok (.iload_n 3, 1) := by decide +kernel
theorem dL_law_249 : decode cL_law 249 = .ok (.iconst 2, 1) := by decide +kernel
theorem dL_law_250 : decode cL_law 250 = .ok (.iadd, 1) := by decide +kernel
theorem dL_law_251 : decode cL_law 251 = .ok (.iaload, 1) := by decide +kernel
theorem dL_law_252 : decode cL_law 252 = .ok (.invokevirtual 28, 3) := by decide +kernel
theorem dL_law_255 : decode cL_law 255 = .ok (.aload_n 2, 1) := by decide +kernel
theorem dL_law_256 : decode cL_law 256 = .ok (.aload_n 0, 1) := by decide +kernel
theorem dL_law_257 : decode cL_law 257 = .ok (.iload_n 3, 1) := by decide +kernel
theorem dL_law_258 : decode cL_law 258 = .ok (.iconst 1, 1) := by decide +kernel
theorem dL_law_259 : decode cL_law 259 = .ok (.iadd, 1) := by decide +kernel
theorem dL_law_260 : decode cL_law 260 = .ok (.iaload, 1) := by decide +kernel
theorem dL_law_261 : decode cL_law 261 = .ok (.aload_n 0, 1) := by decide +kernel
theorem dL_law_262 : decode cL_law 262 = .ok (.iload_n 3, 1) := by decide +kernel
theorem dL_law_263 : decode cL_law 263 = .ok (.iconst 2, 1) := by decide +kernel
theorem dL_law_264 : decode cL_law 264 = .ok (.iadd, 1) := by decide +kernel
theorem dL_law_265 : decode cL_law 265 = .ok (.iaload, 1) := by decide +kernel
theorem dL_law_266 : decode cL_law 266 = .ok (.invokevirtual 32, 3) := by decide +kernel
theorem dL_law_269 : decode cL_law 269 = .ok (.if_icmp .eq 621, 3) := by decide +kernel
theorem dL_law_272 : decode cL_law 272 = .ok (.iconst 0, 1) := by decide +kernel
theorem dL_law_273 : decode cL_law 273 = .ok (.ireturn, 1) := by decide +kernel
theorem dL_law_274 : decode cL_law 274 = .ok (.aload_n 1, 1) := by decide +kernel
theorem dL_law_275 : decode cL_law 275 = .ok (.aload_n 0, 1) := by decide +kernel
theorem dL_law_276 : decode cL_law 276 = .ok (.iload_n 3, 1) := by decide +kernel
theorem dL_law_277 : decode cL_law 277 = .ok (.iconst 1, 1) := by decide +kernel
theorem dL_law_278 : decode cL_law 278 = .ok (.iadd, 1) := by decide +kernel
theorem dL_law_279 : decode cL_law 279 = .ok (.iaload, 1) := by decide +kernel
theorem dL_law_280 : decode cL_law 280 = .ok (.aload_n 0, 1) := by decide +kernel
theorem dL_law_281 : decode cL_law 281 = .ok (.iload_n 3, 1) := by decide +kernel
theorem dL_law_282 : decode cL_law 282 = .ok (.iconst 2, 1) := by decide +kernel
theorem dL_law_283 : decode cL_law 283 = .ok (.iadd, 1) := by decide +kernel
theorem dL_law_284 : decode cL_law 284 = .ok (.iaload, 1) := by decide +kernel
theorem dL_law_285 : decode cL_law 285 = .ok (.aload_n 0, 1) := by decide +kernel
theorem dL_law_286 : decode cL_law 286 = .ok (.iload_n 3, 1) := by decide +kernel
theorem dL_law_287 : decode cL_law 287 = .ok (.iconst 3, 1) := by decide +kernel
theorem dL_law_288 : decode cL_law 288 = .ok (.iadd, 1) := by decide +kernel
theorem dL_law_289 : decode cL_law 289 = .ok (.iaload, 1) := by decide +kernel
theorem dL_law_290 : decode cL_law 290 = .ok (.invokevirtual 33, 3) := by decide +kernel
theorem dL_law_293 : decode cL_law 293 = .ok (.aload_n 2, 1) := by decide +kernel
theorem dL_law_294 : decode cL_law 294 = .ok (.aload_n 0, 1) := by decide +kernel
theorem dL_law_295 : decode cL_law 295 = .ok (.iload_n 3, 1) := by decide +kernel
theorem dL_law_296 : decode cL_law 296 = .ok (.iconst 1, 1) := by decide +kernel
theorem dL_law_297 : decode cL_law 297 = .ok (.iadd, 1) := by decide +kernel
theorem dL_law_298 : decode cL_law 298 = .ok (.iaload, 1) := by decide +kernel
theorem dL_law_299 : decode cL_law 299 = .ok (.aload_n 0, 1) := by decide +kernel
theorem dL_law_300 : decode cL_law 300 = .ok (.iload_n 3, 1) := by decide +kernel
theorem dL_law_301 : decode cL_law 301 = .ok (.iconst 2, 1) := by decide +kernel
theorem dL_law_302 : decode cL_law 302 = .ok (.iadd, 1) := by decide +kernel
theorem dL_law_303 : decode cL_law 303 = .ok (.iaload, 1) := by decide +kernel
theorem dL_law_304 : decode cL_law 304 = .ok (.aload_n 0, 1) := by decide +kernel
theorem dL_law_305 : decode cL_law 305 = .ok (.iload_n 3, 1) := by decide +kernel
theorem dL_law_306 : decode cL_law 306 = .ok (.iconst 3, 1) := by decide +kernel
theorem dL_law_307 : decode cL_law 307 = .ok (.iadd, 1) := by decide +kernel
theorem dL_law_308 : decode cL_law 308 = .ok (.iaload, 1) := by decide +kernel
theorem dL_law_309 : decode cL_law 309 = .ok (.invokevirtual 37, 3) := by decide +kernel
theorem dL_law_312 : decode cL_law 312 = .ok (.if_icmp .eq 578, 3) := by decide +kernel
theorem dL_law_315 : decode cL_law 315 = .ok (.iconst 0, 1) := by decide +kernel
theorem dL_law_316 : decode cL_law 316 = .ok (.ireturn, 1) := by decide +kernel
theorem dL_law_317 : decode cL_law 317 = .ok (.aload_n 1, 1) := by decide +kernel
theorem dL_law_318 : decode cL_law 318 = .ok (.aload_n 0, 1) := by decide +kernel
theorem dL_law_319 : decode cL_law 319 = .ok (.iload_n 3, 1) := by decide +kernel
theorem dL_law_320 : decode cL_law 320 = .ok (.iconst 1, 1) := by decide +kernel
theorem dL_law_321 : decode cL_law 321 = .ok (.iadd, 1) := by decide +kernel
theorem dL_law_322 : decode cL_law 322 = .ok (.iaload, 1) := by decide +kernel
theorem dL_law_323 : decode cL_law 323 = .ok (.aload_n 0, 1) := by decide +kernel
theorem dL_law_324 : decode cL_law 324 = .ok (.iload_n 3, 1) := by decide +kernel
theorem dL_law_325 : decode cL_law 325 = .ok (.iconst 2, 1) := by decide +kernel
theorem dL_law_326 : decode cL_law 326 = .ok (.iadd, 1) := by decide +kernel
theorem dL_law_327 : decode cL_law 327 = .ok (.iaload, 1) := by decide +kernel
theorem dL_law_328 : decode cL_law 328 = .ok (.invokevirtual 38, 3) := by decide +kernel
theorem dL_law_331 : decode cL_law 331 = .ok (.aload_n 2, 1) := by decide +kernel
theorem dL_law_332 : decode cL_law 332 = .ok (.aload_n 0, 1) := by decide +kernel
theorem dL_law_333 : decode cL_law 333 = .ok (.iload_n 3, 1) := by decide +kernel
theorem dL_law_334 : decode cL_law 334 = .ok (.iconst 1, 1) := by decide +kernel
theorem dL_law_335 : decode cL_law 335 = .ok (.iadd, 1) := by decide +kernel
theorem dL_law_336 : decode cL_law 336 = .ok (.iaload, 1) := by decide +kernel
theorem dL_law_337 : decode cL_law 337 = .ok (.aload_n 0, 1) := by decide +kernel
theorem dL_law_338 : decode cL_law 338 = .ok (.iload_n 3, 1) := by decide +kernel
theorem dL_law_339 : decode cL_law 339 = .ok (.iconst 2, 1) := by decide +kernel
theorem dL_law_340 : decode cL_law 340 = .ok (.iadd, 1) := by decide +kernel
theorem dL_law_341 : decode cL_law 341 = .ok (.iaload, 1) := by decide +kernel
theorem dL_law_342 : decode cL_law 342 = .ok (.invokevirtual 41, 3) := by decide +kernel
theorem dL_law_345 : decode cL_law 345 = .ok (.if_icmp .eq 545, 3) := by decide +kernel
theorem dL_law_348 : decode cL_law 348 = .ok (.iconst 0, 1) := by decide +kernel
theorem dL_law_349 : decode cL_law 349 = .ok (.ireturn, 1) := by decide +kernel
theorem dL_law_350 : decode cL_law 350 = .ok (.aload_n 1, 1) := by decide +kernel
theorem dL_law_351 : decode cL_law 351 = .ok (.aload_n 0, 1) := by decide +kernel
theorem dL_law_352 : decode cL_law 352 = .ok (.iload_n 3, 1) := by decide +kernel
theorem dL_law_353 : decode cL_law 353 = .ok (.iconst 1, 1) := by decide +kernel
theorem dL_law_354 : decode cL_law 354 = .ok (.iadd, 1) := by decide +kernel
theorem dL_law_355 : decode cL_law 355 = .ok (.iaload, 1) := by decide +kernel
theorem dL_law_356 : decode cL_law 356 = .ok (.invokevirtual 42, 3) := by decide +kernel
theorem dL_law_359 : decode cL_law 359 = .ok (.aload_n 2, 1) := by decide +kernel
theorem dL_law_360 : decode cL_law 360 = .ok (.aload_n 0, 1) := by decide +kernel
theorem dL_law_361 : decode cL_law 361 = .ok (.iload_n 3, 1) := by decide +kernel
theorem dL_law_362 : decode cL_law 362 = .ok (.iconst 1, 1) := by decide +kernel
theorem dL_law_363 : decode cL_law 363 = .ok (.iadd, 1) := by decide +kernel
theorem dL_law_364 : decode cL_law 364 = .ok (.iaload, 1) := by decide +kernel
theorem dL_law_365 : decode cL_law 365 = .ok (.invokevirtual 45, 3) := by decide +kernel
theorem dL_law_368 : decode cL_law 368 = .ok (.if_icmp .eq 522, 3) := by decide +kernel
theorem dL_law_371 : decode cL_law 371 = .ok (.iconst 0, 1) := by decide +kernel
theorem dL_law_372 : decode cL_law 372 = .ok (.ireturn, 1) := by decide +kernel
theorem dL_law_373 : decode cL_law 373 = .ok (.aload_n 1, 1) := by decide +kernel
theorem dL_law_374 : decode cL_law 374 = .ok (.aload_n 0, 1) := by decide +kernel
theorem dL_law_375 : decode cL_law 375 = .ok (.iload_n 3, 1) := by decide +kernel
theorem dL_law_376 : decode cL_law 376 = .ok (.iconst 1, 1) := by decide +kernel
theorem dL_law_377 : decode cL_law 377 = .ok (.iadd, 1) := by decide +kernel
theorem dL_law_378 : decode cL_law 378 = .ok (.iaload, 1) := by decide +kernel
theorem dL_law_379 : decode cL_law 379 = .ok (.invokevirtual 46, 3) := by decide +kernel
theorem dL_law_382 : decode cL_law 382 = .ok (.aload_n 2, 1) := by decide +kernel
theorem dL_law_383 : decode cL_law 383 = .ok (.aload_n 0, 1) := by decide +kernel
theorem dL_law_384 : decode cL_law 384 = .ok (.iload_n 3, 1) := by decide +kernel
theorem dL_law_385 : decode cL_law 385 = .ok (.iconst 1, 1) := by decide +kernel
theorem dL_law_386 : decode cL_law 386 = .ok (.iadd, 1) := by decide +kernel
theorem dL_law_387 : decode cL_law 387 = .ok (.iaload, 1) := by decide +kernel
theorem dL_law_388 : decode cL_law 388 = .ok (.invokevirtual 49, 3) := by decide +kernel
theorem dL_law_391 : decode cL_law 391 = .ok (.if_icmp .eq 499, 3) := by decide +kernel
theorem dL_law_394 : decode cL_law 394 = .ok (.iconst 0, 1) := by decide +kernel
theorem dL_law_395 : decode cL_law 395 = .ok (.ireturn, 1) := by decide +kernel
theorem dL_law_396 : decode cL_law 396 = .ok (.aload_n 1, 1) := by decide +kernel
theorem dL_law_397 : decode cL_law 397 = .ok (.aload_n 0, 1) := by decide +kernel
theorem dL_law_398 : decode cL_law 398 = .ok (.iload_n 3, 1) := by decide +kernel
theorem dL_law_399 : decode cL_law 399 = .ok (.iconst 1, 1) := by decide +kernel
theorem dL_law_400 : decode cL_law 400 = .ok (.iadd, 1) := by decide +kernel
theorem dL_law_401 : decode cL_law 401 = .ok (.iaload, 1) := by decide +kernel
theorem dL_law_402 : decode cL_law 402 = .ok (.aload_n 0, 1) := by decide +kernel
theorem dL_law_403 : decode cL_law 403 = .ok (.iload_n 3, 1) := by decide +kernel
theorem dL_law_404 : decode cL_law 404 = .ok (.iconst 2, 1) := by decide +kernel
theorem dL_law_405 : decode cL_law 405 = .ok (.iadd, 1) := by decide +kernel
theorem dL_law_406 : decode cL_law 406 = .ok (.iaload, 1) := by decide +kernel
theorem dL_law_407 : decode cL_law 407 = .ok (.invokevirtual 50, 3) := by decide +kernel
theorem dL_law_410 : decode cL_law 410 = .ok (.aload_n 2, 1) := by decide +kernel
theorem dL_law_411 : decode cL_law 411 = .ok (.aload_n 0, 1) := by decide +kernel
theorem dL_law_412 : decode cL_law 412 = .ok (.iload_n 3, 1) := by decide +kernel
theorem dL_law_413 : decode cL_law 413 = .ok (.iconst 1, 1) := by decide +kernel
theorem dL_law_414 : decode cL_law 414 = .ok (.iadd, 1) := by decide +kernel
theorem dL_law_415 : decode cL_law 415 = .ok (.iaload, 1) := by decide +kernel
theorem dL_law_416 : decode cL_law 416 = .ok (.aload_n 0, 1) := by decide +kernel
theorem dL_law_417 : decode cL_law 417 = .ok (.iload_n 3, 1) := by decide +kernel
theorem dL_law_418 : decode cL_law 418 = .ok (.iconst 2, 1) := by decide +kernel
theorem dL_law_419 : decode cL_law 419 = .ok (.iadd, 1) := by decide +kernel
theorem dL_law_420 : decode cL_law 420 = .ok (.iaload, 1) := by decide +kernel
theorem dL_law_421 : decode cL_law 421 = .ok (.invokevirtual 53, 3) := by decide +kernel
theorem dL_law_424 : decode cL_law 424 = .ok (.if_icmp .eq 466, 3) := by decide +kernel
theorem dL_law_427 : decode cL_law 427 = .ok (.iconst 0, 1) := by decide +kernel
theorem dL_law_428 : decode cL_law 428 = .ok (.ireturn, 1) := by decide +kernel
theorem dL_law_429 : decode cL_law 429 = .ok (.aload_n 1, 1) := by decide +kernel
theorem dL_law_430 : decode cL_law 430 = .ok (.aload_n 0, 1) := by decide +kernel
theorem dL_law_431 : decode cL_law 431 = .ok (.iload_n 3, 1) := by decide +kernel
theorem dL_law_432 : decode cL_law 432 = .ok (.iconst 1, 1) := by decide +kernel
theorem dL_law_433 : decode cL_law 433 = .ok (.iadd, 1) := by decide +kernel
theorem dL_law_434 : decode cL_law 434 = .ok (.iaload, 1) := by decide +kernel
theorem dL_law_435 : decode cL_law 435 = .ok (.invokevirtual 54, 3) := by decide +kernel
theorem dL_law_438 : decode cL_law 438 = .ok (.aload_n 2, 1) := by decide +kernel
theorem dL_law_439 : decode cL_law 439 = .ok (.aload_n 0, 1) := by decide +kernel
theorem dL_law_440 : decode cL_law 440 = .ok (.iload_n 3, 1) := by decide +kernel
theorem dL_law_441 : decode cL_law 441 = .ok (.iconst 1, 1) := by decide +kernel
theorem dL_law_442 : decode cL_law 442 = .ok (.iadd, 1) := by decide +kernel
theorem dL_law_443 : decode cL_law 443 = .ok (.iaload, 1) := by decide +kernel
theorem dL_law_444 : decode cL_law 444 = .ok (.invokevirtual 57, 3) := by decide +kernel
theorem dL_law_447 : decode cL_law 447 = .ok (.if_icmp .eq 443, 3) := by decide +kernel
theorem dL_law_450 : decode cL_law 450 = .ok (.iconst 0, 1) := by decide +kernel
theorem dL_law_451 : decode cL_law 451 = .ok (.ireturn, 1) := by decide +kernel
theorem dL_law_452 : decode cL_law 452 = .ok (.aload_n 1, 1) := by decide +kernel
theorem dL_law_453 : decode cL_law 453 = .ok (.aload_n 0, 1) := by decide +kernel
theorem dL_law_454 : decode cL_law 454 = .ok (.iload_n 3, 1) := by decide +kernel
theorem dL_law_455 : decode cL_law 455 = .ok (.iconst 1, 1) := by decide +kernel
theorem dL_law_456 : decode cL_law 456 = .ok (.iadd, 1) := by decide +kernel
theorem dL_law_457 : decode cL_law 457 = .ok (.iaload, 1) := by decide +kernel
theorem dL_law_458 : decode cL_law 458 = .ok (.aload_n 0, 1) := by decide +kernel
theorem dL_law_459 : decode cL_law 459 = .ok (.iload_n 3, 1) := by decide +kernel
theorem dL_law_460 : decode cL_law 460 = .ok (.iconst 2, 1) := by decide +kernel
theorem dL_law_461 : decode cL_law 461 = .ok (.iadd, 1) := by decide +kernel
theorem dL_law_462 : decode cL_law 462 = .ok (.iaload, 1) := by decide +kernel
theorem dL_law_463 : decode cL_law 463 = .ok (.invokevirtual 58, 3) := by decide +kernel
theorem dL_law_466 : decode cL_law 466 = .ok (.aload_n 2, 1) := by decide +kernel
theorem dL_law_467 : decode cL_law 467 = .ok (.aload_n 0, 1) := by decide +kernel
theorem dL_law_468 : decode cL_law 468 = .ok (.iload_n 3, 1) := by decide +kernel
theorem dL_law_469 : decode cL_law 469 = .ok (.iconst 1, 1) := by decide +kernel
theorem dL_law_470 : decode cL_law 470 = .ok (.iadd, 1) := by decide +kernel
theorem dL_law_471 : decode cL_law 471 = .ok (.iaload, 1) := by decide +kernel
theorem dL_law_472 : decode cL_law 472 = .ok (.aload_n 0, 1) := by decide +kernel
theorem dL_law_473 : decode cL_law 473 = .ok (.iload_n 3, 1) := by decide +kernel
theorem dL_law_474 : decode cL_law 474 = .ok (.iconst 2, 1) := by decide +kernel
theorem dL_law_475 : decode cL_law 475 = .ok (.iadd, 1) := by decide +kernel
theorem dL_law_476 : decode cL_law 476 = .ok (.iaload, 1) := by decide +kernel
theorem dL_law_477 : decode cL_law 477 = .ok (.invokevirtual 61, 3) := by decide +kernel
theorem dL_law_480 : decode cL_law 480 = .ok (.if_icmp .eq 410, 3) := by decide +kernel
theorem dL_law_483 : decode cL_law 483 = .ok (.iconst 0, 1) := by decide +kernel
theorem dL_law_484 : decode cL_law 484 = .ok (.ireturn, 1) := by decide +kernel
theorem dL_law_485 : decode cL_law 485 = .ok (.aload_n 1, 1) := by decide +kernel
theorem dL_law_486 : decode cL_law 486 = .ok (.aload_n 0, 1) := by decide +kernel
theorem dL_law_487 : decode cL_law 487 = .ok (.iload_n 3, 1) := by decide +kernel
theorem dL_law_488 : decode cL_law 488 = .ok (.iconst 1, 1) := by decide +kernel
theorem dL_law_489 : decode cL_law 489 = .ok (.iadd, 1) := by decide +kernel
theorem dL_law_490 : decode cL_law 490 = .ok (.iaload, 1) := by decide +kernel
theorem dL_law_491 : decode cL_law 491 = .ok (.aload_n 0, 1) := by decide +kernel
theorem dL_law_492 : decode cL_law 492 = .ok (.iload_n 3, 1) := by decide +kernel
theorem dL_law_493 : decode cL_law 493 = .ok (.iconst 2, 1) := by decide +kernel
theorem dL_law_494 : decode cL_law 494 = .ok (.iadd, 1) := by decide +kernel
theorem dL_law_495 : decode cL_law 495 = .ok (.iaload, 1) := by decide +kernel
theorem dL_law_496 : decode cL_law 496 = .ok (.aload_n 0, 1) := by decide +kernel
theorem dL_law_497 : decode cL_law 497 = .ok (.iload_n 3, 1) := by decide +kernel
theorem dL_law_498 : decode cL_law 498 = .ok (.iconst 3, 1) := by decide +kernel
theorem dL_law_499 : decode cL_law 499 = .ok (.iadd, 1) := by decide +kernel
theorem dL_law_500 : decode cL_law 500 = .ok (.iaload, 1) := by decide +kernel
theorem dL_law_501 : decode cL_law 501 = .ok (.aload_n 0, 1) := by decide +kernel
theorem dL_law_502 : decode cL_law 502 = .ok (.iload_n 3, 1) := by decide +kernel
theorem dL_law_503 : decode cL_law 503 = .ok (.iconst 4, 1) := by decide +kernel
theorem dL_law_504 : decode cL_law 504 = .ok (.iadd, 1) := by decide +kernel
theorem dL_law_505 : decode cL_law 505 = .ok (.iaload, 1) := by decide +kernel
theorem dL_law_506 : decode cL_law 506 = .ok (.aload_n 0, 1) := by decide +kernel
theorem dL_law_507 : decode cL_law 507 = .ok (.iload_n 3, 1) := by decide +kernel
theorem dL_law_508 : decode cL_law 508 = .ok (.iconst 5, 1) := by decide +kernel
theorem dL_law_509 : decode cL_law 509 = .ok (.iadd, 1) := by decide +kernel
theorem dL_law_510 : decode cL_law 510 = .ok (.iaload, 1) := by decide +kernel
theorem dL_law_511 : decode cL_law 511 = .ok (.invokevirtual 62, 3) := by decide +kernel
theorem dL_law_514 : decode cL_law 514 = .ok (.aload_n 2, 1) := by decide +kernel
theorem dL_law_515 : decode cL_law 515 = .ok (.aload_n 0, 1) := by decide +kernel
theorem dL_law_516 : decode cL_law 516 = .ok (.iload_n 3, 1) := by decide +kernel
theorem dL_law_517 : decode cL_law 517 = .ok (.iconst 1, 1) := by decide +kernel
theorem dL_law_518 : decode cL_law 518 = .ok (.iadd, 1) := by decide +kernel
theorem dL_law_519 : decode cL_law 519 = .ok (.iaload, 1) := by decide +kernel
theorem dL_law_520 : decode cL_law 520 = .ok (.aload_n 0, 1) := by decide +kernel
theorem dL_law_521 : decode cL_law 521 = .ok (.iload_n 3, 1) := by decide +kernel
theorem dL_law_522 : decode cL_law 522 = .ok (.iconst 2, 1) := by decide +kernel
theorem dL_law_523 : decode cL_law 523 = .ok (.iadd, 1) := by decide +kernel
theorem dL_law_524 : decode cL_law 524 = .ok (.iaload, 1) := by decide +kernel
theorem dL_law_525 : decode cL_law 525 = .ok (.aload_n 0, 1) := by decide +kernel
theorem dL_law_526 : decode cL_law 526 = .ok (.iload_n 3, 1) := by decide +kernel
theorem dL_law_527 : decode cL_law 527 = .ok (.iconst 3, 1) := by decide +kernel
theorem dL_law_528 : decode cL_law 528 = .ok (.iadd, 1) := by decide +kernel
theorem dL_law_529 : decode cL_law 529 = .ok (.iaload, 1) := by decide +kernel
theorem dL_law_530 : decode cL_law 530 = .ok (.aload_n 0, 1) := by decide +kernel
theorem dL_law_531 : decode cL_law 531 = .ok (.iload_n 3, 1) := by decide +kernel
theorem dL_law_532 : decode cL_law 532 = .ok (.iconst 4, 1) := by decide +kernel
theorem dL_law_533 : decode cL_law 533 = .ok (.iadd, 1) := by decide +kernel
theorem dL_law_534 : decode cL_law 534 = .ok (.iaload, 1) := by decide +kernel
theorem dL_law_535 : decode cL_law 535 = .ok (.aload_n 0, 1) := by decide +kernel
theorem dL_law_536 : decode cL_law 536 = .ok (.iload_n 3, 1) := by decide +kernel
theorem dL_law_537 : decode cL_law 537 = .ok (.iconst 5, 1) := by decide +kernel
theorem dL_law_538 : decode cL_law 538 = .ok (.iadd, 1) := by decide +kernel
theorem dL_law_539 : decode cL_law 539 = .ok (.iaload, 1) := by decide +kernel
theorem dL_law_540 : decode cL_law 540 = .ok (.invokevirtual 66, 3) := by decide +kernel
theorem dL_law_543 : decode cL_law 543 = .ok (.if_icmp .eq 347, 3) := by decide +kernel
theorem dL_law_546 : decode cL_law 546 = .ok (.iconst 0, 1) := by decide +kernel
theorem dL_law_547 : decode cL_law 547 = .ok (.ireturn, 1) := by decide +kernel
theorem dL_law_548 : decode cL_law 548 = .ok (.aload_n 1, 1) := by decide +kernel
theorem dL_law_549 : decode cL_law 549 = .ok (.aload_n 0, 1) := by decide +kernel
theorem dL_law_550 : decode cL_law 550 = .ok (.iload_n 3, 1) := by decide +kernel
theorem dL_law_551 : decode cL_law 551 = .ok (.iconst 1, 1) := by decide +kernel
theorem dL_law_552 : decode cL_law 552 = .ok (.iadd, 1) := by decide +kernel
theorem dL_law_553 : decode cL_law 553 = .ok (.iaload, 1) := by decide +kernel
theorem dL_law_554 : decode cL_law 554 = .ok (.aload_n 0, 1) := by decide +kernel
theorem dL_law_555 : decode cL_law 555 = .ok (.iload_n 3, 1) := by decide +kernel
theorem dL_law_556 : decode cL_law 556 = .ok (.iconst 2, 1) := by decide +kernel
theorem dL_law_557 : decode cL_law 557 = .ok (.iadd, 1) := by decide +kernel
theorem dL_law_558 : decode cL_law 558 = .ok (.iaload, 1) := by decide +kernel
theorem dL_law_559 : decode cL_law 559 = .ok (.aload_n 0, 1) := by decide +kernel
theorem dL_law_560 : decode cL_law 560 = .ok (.iload_n 3, 1) := by decide +kernel
theorem dL_law_561 : decode cL_law 561 = .ok (.iconst 3, 1) := by decide +kernel
theorem dL_law_562 : decode cL_law 562 = .ok (.iadd, 1) := by decide +kernel
theorem dL_law_563 : decode cL_law 563 = .ok (.iaload, 1) := by decide +kernel
theorem dL_law_564 : decode cL_law 564 = .ok (.invokevirtual 67, 3) := by decide +kernel
theorem dL_law_567 : decode cL_law 567 = .ok (.aload_n 2, 1) := by decide +kernel
theorem dL_law_568 : decode cL_law 568 = .ok (.aload_n 0, 1) := by decide +kernel
theorem dL_law_569 : decode cL_law 569 = .ok (.iload_n 3, 1) := by decide +kernel
theorem dL_law_570 : decode cL_law 570 = .ok (.iconst 1, 1) := by decide +kernel
theorem dL_law_571 : decode cL_law 571 = .ok (.iadd, 1) := by decide +kernel
theorem dL_law_572 : decode cL_law 572 = .ok (.iaload, 1) := by decide +kernel
theorem dL_law_573 : decode cL_law 573 = .ok (.aload_n 0, 1) := by decide +kernel
theorem dL_law_574 : decode cL_law 574 = .ok (.iload_n 3, 1) := by decide +kernel
theorem dL_law_575 : decode cL_law 575 = .ok (.iconst 2, 1) := by decide +kernel
theorem dL_law_576 : decode cL_law 576 = .ok (.iadd, 1) := by decide +kernel
theorem dL_law_577 : decode cL_law 577 = .ok (.iaload, 1) := by decide +kernel
theorem dL_law_578 : decode cL_law 578 = .ok (.aload_n 0, 1) := by decide +kernel
theorem dL_law_579 : decode cL_law 579 = .ok (.iload_n 3, 1) := by decide +kernel
theorem dL_law_580 : decode cL_law 580 = .ok (.iconst 3, 1) := by decide +kernel
theorem dL_law_581 : decode cL_law 581 = .ok (.iadd, 1) := by decide +kernel
theorem dL_law_582 : decode cL_law 582 = .ok (.iaload, 1) := by decide +kernel
theorem dL_law_583 : decode cL_law 583 = .ok (.invokevirtual 71, 3) := by decide +kernel
theorem dL_law_586 : decode cL_law 586 = .ok (.if_icmp .eq 304, 3) := by decide +kernel
theorem dL_law_589 : decode cL_law 589 = .ok (.iconst 0, 1) := by decide +kernel
theorem dL_law_590 : decode cL_law 590 = .ok (.ireturn, 1) := by decide +kernel
theorem dL_law_591 : decode cL_law 591 = .ok (.aload_n 1, 1) := by decide +kernel
theorem dL_law_592 : decode cL_law 592 = .ok (.aload_n 0, 1) := by decide +kernel
theorem dL_law_593 : decode cL_law 593 = .ok (.iload_n 3, 1) := by decide +kernel
theorem dL_law_594 : decode cL_law 594 = .ok (.iconst 1, 1) := by decide +kernel
theorem dL_law_595 : decode cL_law 595 = .ok (.iadd, 1) := by decide +kernel
theorem dL_law_596 : decode cL_law 596 = .ok (.iaload, 1) := by decide +kernel
theorem dL_law_597 : decode cL_law 597 = .ok (.aload_n 0, 1) := by decide +kernel
theorem dL_law_598 : decode cL_law 598 = .ok (.iload_n 3, 1) := by decide +kernel
theorem dL_law_599 : decode cL_law 599 = .ok (.iconst 2, 1) := by decide +kernel
theorem dL_law_600 : decode cL_law 600 = .ok (.iadd, 1) := by decide +kernel
theorem dL_law_601 : decode cL_law 601 = .ok (.iaload, 1) := by decide +kernel
theorem dL_law_602 : decode cL_law 602 = .ok (.ifCond .eq 7, 3) := by decide +kernel
theorem dL_law_605 : decode cL_law 605 = .ok (.iconst 1, 1) := by decide +kernel
theorem dL_law_606 : decode cL_law 606 = .ok (.goto 4, 3) := by decide +kernel
theorem dL_law_609 : decode cL_law 609 = .ok (.iconst 0, 1) := by decide +kernel
theorem dL_law_610 : decode cL_law 610 = .ok (.aload_n 0, 1) := by decide +kernel
theorem dL_law_611 : decode cL_law 611 = .ok (.iload_n 3, 1) := by decide +kernel
theorem dL_law_612 : decode cL_law 612 = .ok (.iconst 3, 1) := by decide +kernel
theorem dL_law_613 : decode cL_law 613 = .ok (.iadd, 1) := by decide +kernel
theorem dL_law_614 : decode cL_law 614 = .ok (.iaload, 1) := by decide +kernel
theorem dL_law_615 : decode cL_law 615 = .ok (.ifCond .eq 7, 3) := by decide +kernel
theorem dL_law_618 : decode cL_law 618 = .ok (.iconst 1, 1) := by decide +kernel
theorem dL_law_619 : decode cL_law 619 = .ok (.goto 4, 3) := by decide +kernel
theorem dL_law_622 : decode cL_law 622 = .ok (.iconst 0, 1) := by decide +kernel
theorem dL_law_623 : decode cL_law 623 = .ok (.invokevirtual 72, 3) := by decide +kernel
theorem dL_law_626 : decode cL_law 626 = .ok (.aload_n 2, 1) := by decide +kernel
theorem dL_law_627 : decode cL_law 627 = .ok (.aload_n 0, 1) := by decide +kernel
theorem dL_law_628 : decode cL_law 628 = .ok (.iload_n 3, 1) := by decide +kernel
theorem dL_law_629 : decode cL_law 629 = .ok (.iconst 1, 1) := by decide +kernel
theorem dL_law_630 : decode cL_law 630 = .ok (.iadd, 1) := by decide +kernel
theorem dL_law_631 : decode cL_law 631 = .ok (.iaload, 1) := by decide +kernel
theorem dL_law_632 : decode cL_law 632 = .ok (.aload_n 0, 1) := by decide +kernel
theorem dL_law_633 : decode cL_law 633 = .ok (.iload_n 3, 1) := by decide +kernel
theorem dL_law_634 : decode cL_law 634 = .ok (.iconst 2, 1) := by decide +kernel
theorem dL_law_635 : decode cL_law 635 = .ok (.iadd, 1) := by decide +kernel
theorem dL_law_636 : decode cL_law 636 = .ok (.iaload, 1) := by decide +kernel
theorem dL_law_637 : decode cL_law 637 = .ok (.ifCond .eq 7, 3) := by decide +kernel
theorem dL_law_640 : decode cL_law 640 = .ok (.iconst 1, 1) := by decide +kernel
theorem dL_law_641 : decode cL_law 641 = .ok (.goto 4, 3) := by decide +kernel
theorem dL_law_644 : decode cL_law 644 = .ok (.iconst 0, 1) := by decide +kernel
theorem dL_law_645 : decode cL_law 645 = .ok (.aload_n 0, 1) := by decide +kernel
theorem dL_law_646 : decode cL_law 646 = .ok (.iload_n 3, 1) := by decide +kernel
theorem dL_law_647 : decode cL_law 647 = .ok (.iconst 3, 1) := by decide +kernel
theorem dL_law_648 : decode cL_law 648 = .ok (.iadd, 1) := by decide +kernel
theorem dL_law_649 : decode cL_law 649 = .ok (.iaload, 1) := by decide +kernel
theorem dL_law_650 : decode cL_law 650 = .ok (.ifCond .eq 7, 3) := by decide +kernel
theorem dL_law_653 : decode cL_law 653 = .ok (.iconst 1, 1) := by decide +kernel
theorem dL_law_654 : decode cL_law 654 = .ok (.goto 4, 3) := by decide +kernel
theorem dL_law_657 : decode cL_law 657 = .ok (.iconst 0, 1) := by decide +kernel
theorem dL_law_658 : decode cL_law 658 = .ok (.invokevirtual 76, 3) := by decide +kernel
theorem dL_law_661 : decode cL_law 661 = .ok (.if_icmp .eq 229, 3) := by decide +kernel
theorem dL_law_664 : decode cL_law 664 = .ok (.iconst 0, 1) := by decide +kernel
theorem dL_law_665 : decode cL_law 665 = .ok (.ireturn, 1) := by decide +kernel
theorem dL_law_666 : decode cL_law 666 = .ok (.aload_n 1, 1) := by decide +kernel
theorem dL_law_667 : decode cL_law 667 = .ok (.invokevirtual 77, 3) := by decide +kernel
theorem dL_law_670 : decode cL_law 670 = .ok (.aload_n 2, 1) := by decide +kernel
theorem dL_law_671 : decode cL_law 671 = .ok (.invokevirtual 81, 3) := by decide +kernel
theorem dL_law_674 : decode cL_law 674 = .ok (.if_icmp .eq 216, 3) := by decide +kernel
theorem dL_law_677 : decode cL_law 677 = .ok (.iconst 0, 1) := by decide +kernel
theorem dL_law_678 : decode cL_law 678 = .ok (.ireturn, 1) := by decide +kernel
theorem dL_law_679 : decode cL_law 679 = .ok (.aload_n 1, 1) := by decide +kernel
theorem dL_law_680 : decode cL_law 680 = .ok (.aload_n 0, 1) := by decide +kernel
theorem dL_law_681 : decode cL_law 681 = .ok (.iload_n 3, 1) := by decide +kernel
theorem dL_law_682 : decode cL_law 682 = .ok (.iconst 1, 1) := by decide +kernel
theorem dL_law_683 : decode cL_law 683 = .ok (.iadd, 1) := by decide +kernel
theorem dL_law_684 : decode cL_law 684 = .ok (.iaload, 1) := by decide +kernel
theorem dL_law_685 : decode cL_law 685 = .ok (.invokevirtual 82, 3) := by decide +kernel
theorem dL_law_688 : decode cL_law 688 = .ok (.aload_n 2, 1) := by decide +kernel
theorem dL_law_689 : decode cL_law 689 = .ok (.aload_n 0, 1) := by decide +kernel
theorem dL_law_690 : decode cL_law 690 = .ok (.iload_n 3, 1) := by decide +kernel
theorem dL_law_691 : decode cL_law 691 = .ok (.iconst 1, 1) := by decide +kernel
theorem dL_law_692 : decode cL_law 692 = .ok (.iadd, 1) := by decide +kernel
theorem dL_law_693 : decode cL_law 693 = .ok (.iaload, 1) := by decide +kernel
theorem dL_law_694 : decode cL_law 694 = .ok (.invokevirtual 85, 3) := by decide +kernel
theorem dL_law_697 : decode cL_law 697 = .ok (.if_icmp .eq 193, 3) := by decide +kernel
theorem dL_law_700 : decode cL_law 700 = .ok (.iconst 0, 1) := by decide +kernel
theorem dL_law_701 : decode cL_law 701 = .ok (.ireturn, 1) := by decide +kernel
theorem dL_law_702 : decode cL_law 702 = .ok (.aload_n 1, 1) := by decide +kernel
theorem dL_law_703 : decode cL_law 703 = .ok (.aload_n 0, 1) := by decide +kernel
theorem dL_law_704 : decode cL_law 704 = .ok (.iload_n 3, 1) := by decide +kernel
theorem dL_law_705 : decode cL_law 705 = .ok (.iconst 1, 1) := by decide +kernel
theorem dL_law_706 : decode cL_law 706 = .ok (.iadd, 1) := by decide +kernel
theorem dL_law_707 : decode cL_law 707 = .ok (.iaload, 1) := by decide +kernel
theorem dL_law_708 : decode cL_law 708 = .ok (.aload_n 0, 1) := by decide +kernel
theorem dL_law_709 : decode cL_law 709 = .ok (.iload_n 3, 1) := by decide +kernel
theorem dL_law_710 : decode cL_law 710 = .ok (.iconst 2, 1) := by decide +kernel
theorem dL_law_711 : decode cL_law 711 = .ok (.iadd, 1) := by decide +kernel
theorem dL_law_712 : decode cL_law 712 = .ok (.iaload, 1) := by decide +kernel
theorem dL_law_713 : decode cL_law 713 = .ok (.aload_n 0, 1) := by decide +kernel
theorem dL_law_714 : decode cL_law 714 = .ok (.iload_n 3, 1) := by decide +kernel
theorem dL_law_715 : decode cL_law 715 = .ok (.iconst 3, 1) := by decide +kernel
theorem dL_law_716 : decode cL_law 716 = .ok (.iadd, 1) := by decide +kernel
theorem dL_law_717 : decode cL_law 717 = .ok (.iaload, 1) := by decide +kernel
theorem dL_law_718 : decode cL_law 718 = .ok (.invokevirtual 86, 3) := by decide +kernel
theorem dL_law_721 : decode cL_law 721 = .ok (.aload_n 2, 1) := by decide +kernel
theorem dL_law_722 : decode cL_law 722 = .ok (.aload_n 0, 1) := by decide +kernel
theorem dL_law_723 : decode cL_law 723 = .ok (.iload_n 3, 1) := by decide +kernel
theorem dL_law_724 : decode cL_law 724 = .ok (.iconst 1, 1) := by decide +kernel
theorem dL_law_725 : decode cL_law 725 = .ok (.iadd, 1) := by decide +kernel
theorem dL_law_726 : decode cL_law 726 = .ok (.iaload, 1) := by decide +kernel
theorem dL_law_727 : decode cL_law 727 = .ok (.aload_n 0, 1) := by decide +kernel
theorem dL_law_728 : decode cL_law 728 = .ok (.iload_n 3, 1) := by decide +kernel
theorem dL_law_729 : decode cL_law 729 = .ok (.iconst 2, 1) := by decide +kernel
theorem dL_law_730 : decode cL_law 730 = .ok (.iadd, 1) := by decide +kernel
theorem dL_law_731 : decode cL_law 731 = .ok (.iaload, 1) := by decide +kernel
theorem dL_law_732 : decode cL_law 732 = .ok (.aload_n 0, 1) := by decide +kernel
theorem dL_law_733 : decode cL_law 733 = .ok (.iload_n 3, 1) := by decide +kernel
theorem dL_law_734 : decode cL_law 734 = .ok (.iconst 3, 1) := by decide +kernel
theorem dL_law_735 : decode cL_law 735 = .ok (.iadd, 1) := by decide +kernel
theorem dL_law_736 : decode cL_law 736 = .ok (.iaload, 1) := by decide +kernel
theorem dL_law_737 : decode cL_law 737 = .ok (.invokevirtual 89, 3) := by decide +kernel
theorem dL_law_740 : decode cL_law 740 = .ok (.if_icmp .eq 150, 3) := by decide +kernel
theorem dL_law_743 : decode cL_law 743 = .ok (.iconst 0, 1) := by decide +kernel
theorem dL_law_744 : decode cL_law 744 = .ok (.ireturn, 1) := by decide +kernel
theorem dL_law_745 : decode cL_law 745 = .ok (.aload_n 1, 1) := by decide +kernel
theorem dL_law_746 : decode cL_law 746 = .ok (.aload_n 0, 1) := by decide +kernel
theorem dL_law_747 : decode cL_law 747 = .ok (.iload_n 3, 1) := by decide +kernel
theorem dL_law_748 : decode cL_law 748 = .ok (.iconst 1, 1) := by decide +kernel
theorem dL_law_749 : decode cL_law 749 = .ok (.iadd, 1) := by decide +kernel
theorem dL_law_750 : decode cL_law 750 = .ok (.iaload, 1) := by decide +kernel
theorem dL_law_751 : decode cL_law 751 = .ok (.aload_n 0, 1) := by decide +kernel
theorem dL_law_752 : decode cL_law 752 = .ok (.iload_n 3, 1) := by decide +kernel
theorem dL_law_753 : decode cL_law 753 = .ok (.iconst 2, 1) := by decide +kernel
theorem dL_law_754 : decode cL_law 754 = .ok (.iadd, 1) := by decide +kernel
theorem dL_law_755 : decode cL_law 755 = .ok (.iaload, 1) := by decide +kernel
theorem dL_law_756 : decode cL_law 756 = .ok (.invokevirtual 90, 3) := by decide +kernel
theorem dL_law_759 : decode cL_law 759 = .ok (.aload_n 2, 1) := by decide +kernel
theorem dL_law_760 : decode cL_law 760 = .ok (.aload_n 0, 1) := by decide +kernel
theorem dL_law_761 : decode cL_law 761 = .ok (.iload_n 3, 1) := by decide +kernel
theorem dL_law_762 : decode cL_law 762 = .ok (.iconst 1, 1) := by decide +kernel
theorem dL_law_763 : decode cL_law 763 = .ok (.iadd, 1) := by decide +kernel
theorem dL_law_764 : decode cL_law 764 = .ok (.iaload, 1) := by decide +kernel
theorem dL_law_765 : decode cL_law 765 = .ok (.aload_n 0, 1) := by decide +kernel
theorem dL_law_766 : decode cL_law 766 = .ok (.iload_n 3, 1) := by decide +kernel
theorem dL_law_767 : decode cL_law 767 = .ok (.iconst 2, 1) := by decide +kernel
theorem dL_law_768 : decode cL_law 768 = .ok (.iadd, 1) := by decide +kernel
theorem dL_law_769 : decode cL_law 769 = .ok (.iaload, 1) := by decide +kernel
theorem dL_law_770 : decode cL_law 770 = .ok (.invokevirtual 93, 3) := by decide +kernel
theorem dL_law_773 : decode cL_law 773 = .ok (.if_icmp .eq 117, 3) := by decide +kernel
theorem dL_law_776 : decode cL_law 776 = .ok (.iconst 0, 1) := by decide +kernel
theorem dL_law_777 : decode cL_law 777 = .ok (.ireturn, 1) := by decide +kernel
theorem dL_law_778 : decode cL_law 778 = .ok (.aload_n 1, 1) := by decide +kernel
theorem dL_law_779 : decode cL_law 779 = .ok (.aload_n 0, 1) := by decide +kernel
theorem dL_law_780 : decode cL_law 780 = .ok (.iload_n 3, 1) := by decide +kernel
theorem dL_law_781 : decode cL_law 781 = .ok (.iconst 1, 1) := by decide +kernel
theorem dL_law_782 : decode cL_law 782 = .ok (.iadd, 1) := by decide +kernel
theorem dL_law_783 : decode cL_law 783 = .ok (.iaload, 1) := by decide +kernel
theorem dL_law_784 : decode cL_law 784 = .ok (.aload_n 0, 1) := by decide +kernel
theorem dL_law_785 : decode cL_law 785 = .ok (.iload_n 3, 1) := by decide +kernel
theorem dL_law_786 : decode cL_law 786 = .ok (.iconst 2, 1) := by decide +kernel
theorem dL_law_787 : decode cL_law 787 = .ok (.iadd, 1) := by decide +kernel
theorem dL_law_788 : decode cL_law 788 = .ok (.iaload, 1) := by decide +kernel
theorem dL_law_789 : decode cL_law 789 = .ok (.aload_n 0, 1) := by decide +kernel
theorem dL_law_790 : decode cL_law 790 = .ok (.iload_n 3, 1) := by decide +kernel
theorem dL_law_791 : decode cL_law 791 = .ok (.iconst 3, 1) := by decide +kernel
theorem dL_law_792 : decode cL_law 792 = .ok (.iadd, 1) := by decide +kernel
theorem dL_law_793 : decode cL_law 793 = .ok (.iaload, 1) := by decide +kernel
theorem dL_law_794 : decode cL_law 794 = .ok (.invokevirtual 94, 3) := by decide +kernel
theorem dL_law_797 : decode cL_law 797 = .ok (.aload_n 2, 1) := by decide +kernel
theorem dL_law_798 : decode cL_law 798 = .ok (.aload_n 0, 1) := by decide +kernel
theorem dL_law_799 : decode cL_law 799 = .ok (.iload_n 3, 1) := by decide +kernel
theorem dL_law_800 : decode cL_law 800 = .ok (.iconst 1, 1) := by decide +kernel
theorem dL_law_801 : decode cL_law 801 = .ok (.iadd, 1) := by decide +kernel
theorem dL_law_802 : decode cL_law 802 = .ok (.iaload, 1) := by decide +kernel
theorem dL_law_803 : decode cL_law 803 = .ok (.aload_n 0, 1) := by decide +kernel
theorem dL_law_804 : decode cL_law 804 = .ok (.iload_n 3, 1) := by decide +kernel
theorem dL_law_805 : decode cL_law 805 = .ok (.iconst 2, 1) := by decide +kernel
theorem dL_law_806 : decode cL_law 806 = .ok (.iadd, 1) := by decide +kernel
theorem dL_law_807 : decode cL_law 807 = .ok (.iaload, 1) := by decide +kernel
theorem dL_law_808 : decode cL_law 808 = .ok (.aload_n 0, 1) := by decide +kernel
theorem dL_law_809 : decode cL_law 809 = .ok (.iload_n 3, 1) := by decide +kernel
theorem dL_law_810 : decode cL_law 810 = .ok (.iconst 3, 1) := by decide +kernel
theorem dL_law_811 : decode cL_law 811 = .ok (.iadd, 1) := by decide +kernel
theorem dL_law_812 : decode cL_law 812 = .ok (.iaload, 1) := by decide +kernel
theorem dL_law_813 : decode cL_law 813 = .ok (.invokevirtual 97, 3) := by decide +kernel
theorem dL_law_816 : decode cL_law 816 = .ok (.if_icmp .eq 74, 3) := by decide +kernel
theorem dL_law_819 : decode cL_law 819 = .ok (.iconst 0, 1) := by decide +kernel
theorem dL_law_820 : decode cL_law 820 = .ok (.ireturn, 1) := by decide +kernel
theorem dL_law_821 : decode cL_law 821 = .ok (.aload_n 1, 1) := by decide +kernel
theorem dL_law_822 : decode cL_law 822 = .ok (.aload_n 0, 1) := by decide +kernel
theorem dL_law_823 : decode cL_law 823 = .ok (.iload_n 3, 1) := by decide +kernel
theorem dL_law_824 : decode cL_law 824 = .ok (.iconst 1, 1) := by decide +kernel
theorem dL_law_825 : decode cL_law 825 = .ok (.iadd, 1) := by decide +kernel
theorem dL_law_826 : decode cL_law 826 = .ok (.iaload, 1) := by decide +kernel
theorem dL_law_827 : decode cL_law 827 = .ok (.invokevirtual 98, 3) := by decide +kernel
theorem dL_law_830 : decode cL_law 830 = .ok (.aload_n 2, 1) := by decide +kernel
theorem dL_law_831 : decode cL_law 831 = .ok (.aload_n 0, 1) := by decide +kernel
theorem dL_law_832 : decode cL_law 832 = .ok (.iload_n 3, 1) := by decide +kernel
theorem dL_law_833 : decode cL_law 833 = .ok (.iconst 1, 1) := by decide +kernel
theorem dL_law_834 : decode cL_law 834 = .ok (.iadd, 1) := by decide +kernel
theorem dL_law_835 : decode cL_law 835 = .ok (.iaload, 1) := by decide +kernel
theorem dL_law_836 : decode cL_law 836 = .ok (.invokevirtual 101, 3) := by decide +kernel
theorem dL_law_839 : decode cL_law 839 = .ok (.if_icmp .eq 51, 3) := by decide +kernel
theorem dL_law_842 : decode cL_law 842 = .ok (.iconst 0, 1) := by decide +kernel
theorem dL_law_843 : decode cL_law 843 = .ok (.ireturn, 1) := by decide +kernel
theorem dL_law_844 : decode cL_law 844 = .ok (.aload_n 1, 1) := by decide +kernel
theorem dL_law_845 : decode cL_law 845 = .ok (.aload_n 0, 1) := by decide +kernel
theorem dL_law_846 : decode cL_law 846 = .ok (.iload_n 3, 1) := by decide +kernel
theorem dL_law_847 : decode cL_law 847 = .ok (.iconst 1, 1) := by decide +kernel
theorem dL_law_848 : decode cL_law 848 = .ok (.iadd, 1) := by decide +kernel
theorem dL_law_849 : decode cL_law 849 = .ok (.iaload, 1) := by decide +kernel
theorem dL_law_850 : decode cL_law 850 = .ok (.invokevirtual 102, 3) := by decide +kernel
theorem dL_law_853 : decode cL_law 853 = .ok (.aload_n 2, 1) := by decide +kernel
theorem dL_law_854 : decode cL_law 854 = .ok (.aload_n 0, 1) := by decide +kernel
theorem dL_law_855 : decode cL_law 855 = .ok (.iload_n 3, 1) := by decide +kernel
theorem dL_law_856 : decode cL_law 856 = .ok (.iconst 1, 1) := by decide +kernel
theorem dL_law_857 : decode cL_law 857 = .ok (.iadd, 1) := by decide +kernel
theorem dL_law_858 : decode cL_law 858 = .ok (.iaload, 1) := by decide +kernel
theorem dL_law_859 : decode cL_law 859 = .ok (.invokevirtual 106, 3) := by decide +kernel
theorem dL_law_862 : decode cL_law 862 = .ok (.if_icmp .eq 28, 3) := by decide +kernel
theorem dL_law_865 : decode cL_law 865 = .ok (.iconst 0, 1) := by decide +kernel
theorem dL_law_866 : decode cL_law 866 = .ok (.ireturn, 1) := by decide +kernel
theorem dL_law_867 : decode cL_law 867 = .ok (.aload_n 1, 1) := by decide +kernel
theorem dL_law_868 : decode cL_law 868 = .ok (.aload_n 0, 1) := by decide +kernel
theorem dL_law_869 : decode cL_law 869 = .ok (.iload_n 3, 1) := by decide +kernel
theorem dL_law_870 : decode cL_law 870 = .ok (.iconst 1, 1) := by decide +kernel
theorem dL_law_871 : decode cL_law 871 = .ok (.iadd, 1) := by decide +kernel
theorem dL_law_872 : decode cL_law 872 = .ok (.iaload, 1) := by decide +kernel
theorem dL_law_873 : decode cL_law 873 = .ok (.invokevirtual 107, 3) := by decide +kernel
theorem dL_law_876 : decode cL_law 876 = .ok (.aload_n 2, 1) := by decide +kernel
theorem dL_law_877 : decode cL_law 877 = .ok (.aload_n 0, 1) := by decide +kernel
theorem dL_law_878 : decode cL_law 878 = .ok (.iload_n 3, 1) := by decide +kernel
theorem dL_law_879 : decode cL_law 879 = .ok (.iconst 1, 1) := by decide +kernel
theorem dL_law_880 : decode cL_law 880 = .ok (.iadd, 1) := by decide +kernel
theorem dL_law_881 : decode cL_law 881 = .ok (.iaload, 1) := by decide +kernel
theorem dL_law_882 : decode cL_law 882 = .ok (.invokevirtual 110, 3) := by decide +kernel
theorem dL_law_885 : decode cL_law 885 = .ok (.if_icmp .eq 5, 3) := by decide +kernel
theorem dL_law_888 : decode cL_law 888 = .ok (.iconst 0, 1) := by decide +kernel
theorem dL_law_889 : decode cL_law 889 = .ok (.ireturn, 1) := by decide +kernel
theorem dL_law_890 : decode cL_law 890 = .ok (.iinc 3 6, 3) := by decide +kernel
theorem dL_law_893 : decode cL_law 893 = .ok (.goto (-875), 3) := by decide +kernel
theorem dL_law_896 : decode cL_law 896 = .ok (.iconst 1, 1) := by decide +kernel
theorem dL_law_897 : decode cL_law 897 = .ok (.ireturn, 1) := by decide +kernel
end
section
/-! THE LAYER OF WALKS: ints as mathematical numbers (zI z is the int of z), cells with such contents, one judgement kV over (world, locals, pc, stack), one row an instruction, one row a call. -/
def zI (z : Int) : Int32 := Int32.ofInt z
def zR (z : Int) : Prop := -2147483648 ≤ z ∧ z ≤ 2147483647
theorem zI_toInt {z : Int} (h : zR z) : (zI z).toInt = z := Int32.toInt_ofInt_of_le (by have := h.1; omega) (by have := h.2; omega)
theorem zI_self (x : Int32) : zI x.toInt = x := Int32.ofInt_toInt x
theorem zR_self (x : Int32) : zR x.toInt := by
  have h1 := Int32.le_toInt x
  have h2 := Int32.toInt_lt x
  exact ⟨by omega, by omega⟩
theorem zI_add (a b : Int) : zI a + zI b = zI (a + b) := (Int32.ofInt_add a b).symm
theorem zI_sub (a b : Int) : zI a - zI b = zI (a - b) := (Int32.ofInt_sub a b).symm
theorem zI_mul (a b : Int) : zI a * zI b = zI (a * b) := (Int32.ofInt_mul a b).symm
theorem zI_lt {a b : Int} (ha : zR a) (hb : zR b) : zI a < zI b ↔ a < b := by rw [Int32.lt_iff_toInt_lt, zI_toInt ha, zI_toInt hb]
theorem zI_le {a b : Int} (ha : zR a) (hb : zR b) : zI a ≤ zI b ↔ a ≤ b := by rw [Int32.le_iff_toInt_le, zI_toInt ha, zI_toInt hb]
theorem zI_inj {a b : Int} (ha : zR a) (hb : zR b) : zI a = zI b ↔ a = b := by rw [← Int32.toInt_inj, zI_toInt ha, zI_toInt hb]
theorem zI_nat (n : Nat) : zI (n : Int) = nI n := Int32.ofInt_eq_ofNat
theorem zI_0 : zI 0 = 0 := by decide +kernel
theorem zI_1 : zI 1 = 1 := by decide +kernel
theorem zI_m1 : zI (-1) = -1 := by decide +kernel
theorem zR_0 : zR 0 := ⟨by omega, by omega⟩
theorem zI_clamp {z : Int} {k : Nat} (hz : z = k) (hk : k < 2147483648) : (zI z).toNatClampNeg = k := by
  subst hz
  rw [zI_nat]
  exact nI_clamp (by omega)
theorem zI_in {z : Int} {k n : Nat} (hz : z = k) (hk : k < n) (hn : n < 2147483648) : vp_in (zI z) n := by
  subst hz
  rw [zI_nat]
  exact vp_in_nI hk (by omega)
theorem zI_div {a b : Int} (ha : zR a) (hb : zR b) : zI a / zI b = zI (a.tdiv b) := by
  have h1 := ha.1
  have h2 := ha.2
  have h3 := hb.1
  have h4 := hb.2
  exact (Int32.ofInt_tdiv (by rw [Int32.toInt_minValue]; omega) (by rw [Int32.toInt_maxValue]; omega) (by rw [Int32.toInt_minValue]; omega) (by rw [Int32.toInt_maxValue]; omega)).symm
def zShl (a b : Int) : Int := (zI a <<< (zI b &&& 31)).toInt
def zShr (a b : Int) : Int := (zI a >>> (zI b &&& 31)).toInt
def zAnd (a b : Int) : Int := (zI a &&& zI b).toInt
def zOr (a b : Int) : Int := (zI a ||| zI b).toInt
theorem zShl_R (a b : Int) : zR (zShl a b) := zR_self _
theorem zShr_R (a b : Int) : zR (zShr a b) := zR_self _
theorem zAnd_R (a b : Int) : zR (zAnd a b) := zR_self _
theorem zOr_R (a b : Int) : zR (zOr a b) := zR_self _
/-- a row of numbers with one changed -/
def zU (f : Nat → Int) (k : Nat) (x : Int) : Nat → Int := fun j => if j = k then x else f j
theorem zU_s (f : Nat → Int) (k : Nat) (x : Int) : zU f k x k = x := if_pos rfl
theorem zU_n (f : Nat → Int) {k j : Nat} (x : Int) (h : j ≠ k) : zU f k x j = f j := if_neg h
theorem zU_zI (f : Nat → Int) (k : Nat) (x : Int) : upd (fun j => zI (f j)) k (zI x) = fun j => zI (zU f k x j) := by
  funext j
  unfold upd zU
  by_cases h : j = k <;> simp [h]
/-- the machine's constants of one run: where classes lie, the classes of arrays (0: int, 1: boolean, 2: Told, 3: rows of ints), the launch -/
abbrev KM : Type := va_G × (Nat → ClassId) × Launch
abbrev tyM (M : KM) : List (ClassId × FieldType) := [(M.2.1 0, .int), (M.2.1 1, .boolean), (M.2.1 2, .object RX9), (M.2.1 3, .array .int)]
def cO (k h : Nat) (fs : List Value) : Nat × va_E := (h, .inr (k, fs))
def cI (M : KM) (a n : Nat) (f : Nat → Int) : Nat × va_E := (a, .inl (M.2.1 0, n, .inl (fun j => zI (f j))))
def cZ (M : KM) (a n : Nat) (f : Nat → Int) : Nat × va_E := (a, .inl (M.2.1 1, n, .inl (fun j => zI (f j))))
def cT (M : KM) (a n : Nat) (f : Nat → Option Nat) : Nat × va_E := (a, .inl (M.2.1 2, n, .inr (.inr (.inr (.inr f)))))
def cG (M : KM) (a n : Nat) (f : Nat → Option Nat) : Nat × va_E := (a, .inl (M.2.1 3, n, .inr (.inr (.inr (.inr f)))))
/-- one method's run: everything that stays the same on the way -/
abbrev KE : Type := Program × Env × Room × State × MethodId × Array Value × List Frame × Method × Code × (Nat → Prop) × (State → Prop)
/-- links among nest mates, and the classes of arrays of references -/
def kX (U : State) : Prop :=
  va_Nw (.methodLinkNest RX10 9 yX9_init RX10) U ∧ va_Nw (.methodLinkNest RX9 9 yX0_init RX10) U ∧ va_Nw (.methodLinkNest RX9 18 yX4_init RX10) U ∧ va_Nw (.methodLinkNest RX9 25 yX5_init RX10) U ∧ va_Nw (.methodLinkNest RX9 32 yX6_init RX10) U ∧ va_Nw (.methodLinkNest RX9 46 yX8_init RX10) U ∧ va_Nw (.methodLinkNest RX10 22 yX3_init RX10) U ∧ va_Nw (.methodLinkNest RX10 29 yX7_init RX10) U ∧ va_Nw (.methodLinkNest RX10 36 yX1_init RX10) U ∧ va_AO RX9 U ∧ va_AOA .int U
theorem va_AOA.moved {t : FieldType} {u U : State} (hvm : u.vm.Alike U.vm) (h : va_AOA t u) : va_AOA t U := by
  obtain ⟨comp, c, k, h1, h2, h3, h4, h5⟩ := arrayOverA_spec h
  obtain ⟨k', hk', he⟩ := hvm.2.2 _ _ h3
  have e1 := va_idx_bare U.vm comp
  rw [hvm.bare_eq] at e1
  have hi := e1.symm.trans ((va_idx_bare u.vm comp).trans h2)
  have hkind : k'.kind = .array comp (.array t) := by rw [he]; exact h4
  have f1 : U.vm.findClass (FieldType.array t).toString = some comp := by rw [hvm.findClass]; exact h1
  have f2 : U.vm.findClass ("[" ++ (FieldType.array t).toString) = some c := by rw [hvm.findClass]; exact h5
  unfold va_AOA Cond.before Cond.holds
  simp only [Cond.value]
  rw [f1, Option.bind_some]
  refine (congrArg (fun o : Option Nat => (o.bind (fun c => (U.vm.classes[c]?).map fun (k : Class) => match k.kind with | .array _ ty => decide (ty = FieldType.array t) && decide (U.vm.findClass ("[" ++ (FieldType.array t).toString) = some c) | _ => false) == some true)) hi).trans ?_
  simp [hk', hkind, f2]
theorem kX.warm {s U : State} (hW : s.WarmedH U.vm) (h : kX s) : kX U := by
  obtain ⟨h1, h2, h3, h4, h5, h6, h7, h8, h9, h10, h11⟩ := h
  exact ⟨h1.warmM hW, h2.warmM hW, h3.warmM hW, h4.warmM hW, h5.warmM hW, h6.warmM hW, h7.warmM hW, h8.warmM hW, h9.warmM hW, h10.moved hW.alike, h11.moved hW.alike⟩
theorem kX.calling {U : State} (a : Array Value) (g : JFrame) (mk : MethodId) (h : kX U) : kX (U.calling g mk a) := by
  obtain ⟨h1, h2, h3, h4, h5, h6, h7, h8, h9, h10, h11⟩ := h
  have e : U.vm = (U.calling g mk a).vm := rfl
  exact ⟨h1.same rfl e, h2.same rfl e, h3.same rfl e, h4.same rfl e, h5.same rfl e, h6.same rfl e, h7.same rfl e, h8.same rfl e, h9.same rfl e, h10.moved (Vm.Alike.refl U.vm), h11.moved (Vm.Alike.refl U.vm)⟩
theorem wsL_in {y : MethodName} {cc : ByteArray} {nL : Nat} {rt : Option FieldType} (hc : Cond.code y cc nL rt ∈ wsA) : GoodIn wsA (.code y cc nL rt :: wsA) := by
  intro w hw
  have hm : w ∈ wsA := by
    rcases List.mem_cons.mp hw with e | e
    · rw [e]; exact hc
    · exact e
  exact ⟨hm, good_of_word (List.mem_filter.mp hm).2⟩
/-- the machine stands at pc with these locals and this stack over this world, and comes to its end -/
def kV (M : KM) (E : KE) (nL cells slots : Nat) (ws : va_W) (lv : List (Nat × Value)) (pc : Nat) (st : List Value) : Prop :=
  match E with
  | (p, e, R, s, m, args, below, meth, c, A, Q) => ∀ (H : Heap) (locs : List Loc) (ls : Array Slot), va_P M.1 vwCl ws H → va_D A ws → va_S A s.heap H locs → lv_has ls nL lv → W p M.2.2 e R s m args below meth c H locs cells slots Q (F0 m pc ls st)
/-- what is known of the run: d calls deep, mc cells of ms slots may be made -/
def kG (M : KM) (E : KE) (nL d mc ms : Nat) (cc : ByteArray) (own : String) : Prop :=
  match E with
  | (p, _, R, s, m, args, _, _, c, A, _) => p.tables.exec = Jvm.exec ∧ c.code = cc ∧ c.maxLocals = nL ∧ s.vm.findClass own = some m.cls ∧ (∀ w ∈ wsA, w.before args s = true) ∧ va_K M.1 vwCl (tyM M) s ∧ (∀ q, s.heap.size ≤ q → A q) ∧ kX s ∧ (d ≤ R.frames ∧ 35 * d ≤ R.locals ∧ mc ≤ R.cells ∧ ms ≤ R.slots)
def kN (E : KE) (nm : String) : Prop :=
  match E with
  | (_, _, _, _, _, _, _, meth, _, _, _) => meth.name = nm
def rmD (d mc ms : Nat) : Room := { frames := d, cells := mc, slots := ms, locals := 35 * d }
def kPre (M : KM) (wc : va_W) (sz : Nat) (av : List Value) : Array Value → State → Prop := va_Pc av (fun U => U.heap.size = sz ∧ va_P M.1 vwCl wc U.heap ∧ va_K M.1 vwCl (tyM M) U ∧ va_D (fun _ => True) wc ∧ kX U)
def kB {S : Type} (M : KM) (A : Nat → Prop) (w' : S → va_W) (u : S) (t : State) : Prop := va_P M.1 vwCl (w' u) t.heap ∧ va_D A (w' u)
/-- the contract of a method that answers a number -/
def kCI (M : KM) (y : MethodName) (cc : ByteArray) (nL : Nat) (rt : FieldType) (d mc ms : Nat) (wc : va_W) (av : List Value) {S : Type} (post : Int → S → Prop) (w' : S → va_W) : Prop :=
  ∀ sz : Nat, Met M.2.2 y (.code y cc nL (some rt) :: wsA) (rmD d mc ms) (kPre M wc sz av) (va_Qi (fun r u => ∃ z, r = zI z ∧ post z u) (kB M (va_A wc sz) w') (va_A wc sz)) mc ms (va_A wc sz)
/-- the contract of a method that answers nothing -/
def kCV (M : KM) (y : MethodName) (cc : ByteArray) (nL : Nat) (d mc ms : Nat) (wc : va_W) (av : List Value) {S : Type} (post : S → Prop) (w' : S → va_W) : Prop :=
  ∀ sz : Nat, Met M.2.2 y (.code y cc nL none :: wsA) (rmD d mc ms) (kPre M wc sz av) (va_Qv post (kB M (va_A wc sz) w') (va_A wc sz)) mc ms (va_A wc sz)
theorem kPre.blind {M : KM} {wc : va_W} {sz : Nat} {av : List Value} : FrameBlind (kPre M wc sz av) := by
  intro a U g mk h
  obtain ⟨h1, h2, h3, h4, h5, h6⟩ := h
  exact ⟨h1, h2, h3, va_K.moved (u := U) (U := U.calling g mk a) (Vm.Alike.refl U.vm) h4, h5, h6.calling a g mk⟩
set_option maxHeartbeats 4000000 in
theorem kCI.of {M : KM} {y : MethodName} {cc : ByteArray} {nL : Nat} {rt : FieldType} {d mc ms : Nat} {wc : va_W} {av : List Value} {S : Type} {post : Int → S → Prop} {w' : S → va_W} (lv : List (Nat × Value)) (hy : plainName y.cls = true) (hn : (lg_sl av).length ≤ nL) (hlv : lv_args 0 av = lv)
    (body : ∀ E : KE, kG M E nL d mc ms cc y.cls → (∀ (z : Int) (u : S) (pc : Nat) (lv : List (Nat × Value)) (cells slots : Nat), cells ≤ mc → slots ≤ ms → decode cc pc = .ok (.ireturn, 1) → narrow rt (.int (zI z)) = .int (zI z) → post z u → kV M E nL cells slots (w' u) lv pc [.int (zI z)]) → kV M E nL 0 0 wc lv 0 []) : kCI M y cc nL rt d mc ms wc av post w' := by
  intro sz
  refine Met.ofW (cc := cc) (maxL := nL) (ret := some rt) hy rfl ?_
  intro p e s m args below meth c s₁ B hml hv
  obtain ⟨rfl, hsz, hP, hK, hD0, hX⟩ := hv
  have hts := atoms_spec (ws := .code y cc nL (some rt) :: wsA) B.pre
  have hown : s.vm.findClass y.cls = some m.cls := findClass_of_methodNamed B.named
  have hlocks := B.notSynchronized
  have hr := B.returns
  have hb := B.bytes
  have hx := B.exec
  subst hsz
  have hD := hD0.self (sz := s.heap.size)
  have hl := lv_entry av (n := nL) hn
  rw [lg_entry_eq]
  rw [hlv] at hl
  refine body (p, e, _, s, m, av.toArray, below, meth, c, va_A wc s.heap.size, _) ⟨hx, hb, hml, hown, fun w hw => hts w (List.mem_cons_of_mem _ hw), hK, fun q h => Or.inr h, hX, Nat.le_refl _, Nat.le_refl _, Nat.le_refl _, Nat.le_refl _⟩ ?_ s.heap [] _ hP hD va_S.rf hl
  intro z u pc lv2 cells slots h1 h2 hdg hnar hp H locs ls hP2 hD2 hS2 hl2
  refine W.widen (k := mc) (n := ms) h1 h2 ?_
  exact W.zret hx hb hr hnar (fun t ht hW => ⟨⟨_, u, rfl, ⟨z, rfl, hp⟩, by rw [ht]; exact hP2, hD2⟩, hS2.F ht⟩) hS2.2.2 hdg
set_option maxHeartbeats 4000000 in
theorem kCV.of {M : KM} {y : MethodName} {cc : ByteArray} {nL : Nat} {d mc ms : Nat} {wc : va_W} {av : List Value} {S : Type} {post : S → Prop} {w' : S → va_W} (lv : List (Nat × Value)) (hy : plainName y.cls = true) (hn : (lg_sl av).length ≤ nL) (hlv : lv_args 0 av = lv)
    (body : ∀ E : KE, kG M E nL d mc ms cc y.cls → kN E y.name → (∀ (u : S) (pc : Nat) (lv : List (Nat × Value)) (cells slots : Nat), cells ≤ mc → slots ≤ ms → decode cc pc = .ok (.return_, 1) → post u → kV M E nL cells slots (w' u) lv pc []) → kV M E nL 0 0 wc lv 0 []) : kCV M y cc nL d mc ms wc av post w' := by
  intro sz
  refine Met.ofW (cc := cc) (maxL := nL) (ret := none) hy rfl ?_
  intro p e s m args below meth c s₁ B hml hv
  obtain ⟨rfl, hsz, hP, hK, hD0, hX⟩ := hv
  have hts := atoms_spec (ws := .code y cc nL none :: wsA) B.pre
  have hown : s.vm.findClass y.cls = some m.cls := findClass_of_methodNamed B.named
  have hnm : meth.name = y.name := (name_of_methodNamed B.named B.method).1
  have hlocks := B.notSynchronized
  have hr := B.returns
  have hb := B.bytes
  have hx := B.exec
  subst hsz
  have hD := hD0.self (sz := s.heap.size)
  have hl := lv_entry av (n := nL) hn
  rw [lg_entry_eq]
  rw [hlv] at hl
  refine body (p, e, _, s, m, av.toArray, below, meth, c, va_A wc s.heap.size, _) ⟨hx, hb, hml, hown, fun w hw => hts w (List.mem_cons_of_mem _ hw), hK, fun q h => Or.inr h, hX, Nat.le_refl _, Nat.le_refl _, Nat.le_refl _, Nat.le_refl _⟩ hnm ?_ s.heap [] _ hP hD va_S.rf hl
  intro u pc lv2 cells slots h1 h2 hdg hp H locs ls hP2 hD2 hS2 hl2
  refine W.widen (k := mc) (n := ms) h1 h2 ?_
  exact W.vret hx hb hr (fun t ht hW => ⟨⟨u, rfl, hp, by rw [ht]; exact hP2, hD2⟩, hS2.F ht⟩) hS2.2.2 hdg
section KR
variable {M : KM} {E : KE} {nL cells slots d mc ms : Nat} {ws : va_W} {lv : List (Nat × Value)} {st : List Value} {cc : ByteArray} {own : String}
theorem z_iconst {pc : Nat} {n : Int} (g : kG M E nL d mc ms cc own) (hd : decode cc pc = .ok (.iconst n, 1)) (k : kV M E nL cells slots ws lv (pc + 1) (.int (zI n) :: st)) : kV M E nL cells slots ws lv pc (st) := by
  obtain ⟨p, e, R, s, m, args, below, meth, c, A, Q⟩ := E
  obtain ⟨hx, hb, hml, hown, hts, hK, hA, hX, hR1, hR2, hR3, hR4⟩ := g
  intro H locs ls hP hD hS hl
  refine lv_iconst hx hb hd rfl ?_
  exact k H locs ls hP hD hS hl
theorem z_bipush {pc : Nat} {n : Int} (g : kG M E nL d mc ms cc own) (hd : decode cc pc = .ok (.bipush n, 2)) (hv : (Int8.ofInt n).toInt32 = zI n) (k : kV M E nL cells slots ws lv (pc + 2) (.int (zI n) :: st)) : kV M E nL cells slots ws lv pc (st) := by
  obtain ⟨p, e, R, s, m, args, below, meth, c, A, Q⟩ := E
  obtain ⟨hx, hb, hml, hown, hts, hK, hA, hX, hR1, hR2, hR3, hR4⟩ := g
  intro H locs ls hP hD hS hl
  refine lv_bipush hx hb hd hv ?_
  exact k H locs ls hP hD hS hl
theorem z_sipush {pc : Nat} {n : Int} (g : kG M E nL d mc ms cc own) (hd : decode cc pc = .ok (.sipush n, 3)) (hv : (Int16.ofInt n).toInt32 = zI n) (k : kV M E nL cells slots ws lv (pc + 3) (.int (zI n) :: st)) : kV M E nL cells slots ws lv pc (st) := by
  obtain ⟨p, e, R, s, m, args, below, meth, c, A, Q⟩ := E
  obtain ⟨hx, hb, hml, hown, hts, hK, hA, hX, hR1, hR2, hR3, hR4⟩ := g
  intro H locs ls hP hD hS hl
  refine lv_sipush hx hb hd hv ?_
  exact k H locs ls hP hD hS hl
theorem z_ldc {pc : Nat} {v : Int32} {n : Int} {index : Nat} (g : kG M E nL d mc ms cc own) (hd : decode cc pc = .ok (.ldc index, 2)) (hc : Cond.constant own index v ∈ wsA) (hv : v = zI n) (k : kV M E nL cells slots ws lv (pc + 2) (.int (zI n) :: st)) : kV M E nL cells slots ws lv pc (st) := by
  obtain ⟨p, e, R, s, m, args, below, meth, c, A, Q⟩ := E
  obtain ⟨hx, hb, hml, hown, hts, hK, hA, hX, hR1, hR2, hR3, hR4⟩ := g
  intro H locs ls hP hD hS hl
  subst hv
  refine lv_ldc hx hb hown (hts _ hc) hd ?_
  exact k H locs ls hP hD hS hl
theorem z_iload_n {pc : Nat} {j : Fin 4} {i : Nat} {v : Int} (q : Nat) (g : kG M E nL d mc ms cc own) (hd : decode cc pc = .ok (.iload_n j, 1)) (hi : (j : Nat) = i) (hq : lv[q]? = some (i, .int (zI v))) (k : kV M E nL cells slots ws lv (pc + 1) (.int (zI v) :: st)) : kV M E nL cells slots ws lv pc (st) := by
  obtain ⟨p, e, R, s, m, args, below, meth, c, A, Q⟩ := E
  obtain ⟨hx, hb, hml, hown, hts, hK, hA, hX, hR1, hR2, hR3, hR4⟩ := g
  intro H locs ls hP hD hS hl
  refine lv_iload_n hx hb hd hi (lv_at hl q hq) ?_
  exact k H locs ls hP hD hS hl
theorem z_iload {pc : Nat} {i : Nat} {v : Int} (q : Nat) (g : kG M E nL d mc ms cc own) (hd : decode cc pc = .ok (.iload i, 2)) (hq : lv[q]? = some (i, .int (zI v))) (k : kV M E nL cells slots ws lv (pc + 2) (.int (zI v) :: st)) : kV M E nL cells slots ws lv pc (st) := by
  obtain ⟨p, e, R, s, m, args, below, meth, c, A, Q⟩ := E
  obtain ⟨hx, hb, hml, hown, hts, hK, hA, hX, hR1, hR2, hR3, hR4⟩ := g
  intro H locs ls hP hD hS hl
  refine lv_iload hx hb hd (lv_at hl q hq) ?_
  exact k H locs ls hP hD hS hl
theorem z_aload_n {pc : Nat} {j : Fin 4} {i : Nat} {v : Nat} (q : Nat) (g : kG M E nL d mc ms cc own) (hd : decode cc pc = .ok (.aload_n j, 1)) (hi : (j : Nat) = i) (hq : lv[q]? = some (i, .ref v)) (k : kV M E nL cells slots ws lv (pc + 1) (.ref v :: st)) : kV M E nL cells slots ws lv pc (st) := by
  obtain ⟨p, e, R, s, m, args, below, meth, c, A, Q⟩ := E
  obtain ⟨hx, hb, hml, hown, hts, hK, hA, hX, hR1, hR2, hR3, hR4⟩ := g
  intro H locs ls hP hD hS hl
  refine lv_aload_n hx hb hd hi (lv_at hl q hq) ?_
  exact k H locs ls hP hD hS hl
theorem z_aload {pc : Nat} {i : Nat} {v : Nat} (q : Nat) (g : kG M E nL d mc ms cc own) (hd : decode cc pc = .ok (.aload i, 2)) (hq : lv[q]? = some (i, .ref v)) (k : kV M E nL cells slots ws lv (pc + 2) (.ref v :: st)) : kV M E nL cells slots ws lv pc (st) := by
  obtain ⟨p, e, R, s, m, args, below, meth, c, A, Q⟩ := E
  obtain ⟨hx, hb, hml, hown, hts, hK, hA, hX, hR1, hR2, hR3, hR4⟩ := g
  intro H locs ls hP hD hS hl
  refine lv_aload hx hb hd (lv_at hl q hq) ?_
  exact k H locs ls hP hD hS hl
theorem z_istore_n {pc : Nat} {j : Fin 4} {i : Nat} {v : Int} (lv' : List (Nat × Value)) (g : kG M E nL d mc ms cc own) (hd : decode cc pc = .ok (.istore_n j, 1)) (hi : (j : Nat) = i) (hn : i < nL) (hlv : (i, Value.int (zI v)) :: lv.filter (fun q => !(q.1 == i) && !(q.1 + 1 == i && q.2.category == 2)) = lv') (k : kV M E nL cells slots ws lv' (pc + 1) st) : kV M E nL cells slots ws lv pc (Value.int (zI v) :: st) := by
  obtain ⟨p, e, R, s, m, args, below, meth, c, A, Q⟩ := E
  obtain ⟨hx, hb, hml, hown, hts, hK, hA, hX, hR1, hR2, hR3, hR4⟩ := g
  intro H locs ls hP hD hS hl
  refine lv_istore_n hx hb hd hi hl hn hlv (fun ls2 hl2 => ?_)
  exact k H locs ls2 hP hD hS hl2
theorem z_istore {pc : Nat} {i : Nat} {v : Int} (lv' : List (Nat × Value)) (g : kG M E nL d mc ms cc own) (hd : decode cc pc = .ok (.istore i, 2)) (hn : i < nL) (hlv : (i, Value.int (zI v)) :: lv.filter (fun q => !(q.1 == i) && !(q.1 + 1 == i && q.2.category == 2)) = lv') (k : kV M E nL cells slots ws lv' (pc + 2) st) : kV M E nL cells slots ws lv pc (Value.int (zI v) :: st) := by
  obtain ⟨p, e, R, s, m, args, below, meth, c, A, Q⟩ := E
  obtain ⟨hx, hb, hml, hown, hts, hK, hA, hX, hR1, hR2, hR3, hR4⟩ := g
  intro H locs ls hP hD hS hl
  refine lv_istore hx hb hd hl hn hlv (fun ls2 hl2 => ?_)
  exact k H locs ls2 hP hD hS hl2
theorem z_astore_n {pc : Nat} {j : Fin 4} {i : Nat} {v : Nat} (lv' : List (Nat × Value)) (g : kG M E nL d mc ms cc own) (hd : decode cc pc = .ok (.astore_n j, 1)) (hi : (j : Nat) = i) (hn : i < nL) (hlv : (i, Value.ref v) :: lv.filter (fun q => !(q.1 == i) && !(q.1 + 1 == i && q.2.category == 2)) = lv') (k : kV M E nL cells slots ws lv' (pc + 1) st) : kV M E nL cells slots ws lv pc (Value.ref v :: st) := by
  obtain ⟨p, e, R, s, m, args, below, meth, c, A, Q⟩ := E
  obtain ⟨hx, hb, hml, hown, hts, hK, hA, hX, hR1, hR2, hR3, hR4⟩ := g
  intro H locs ls hP hD hS hl
  refine lv_astore_n hx hb hd hi hl hn hlv (fun ls2 hl2 => ?_)
  exact k H locs ls2 hP hD hS hl2
theorem z_astore {pc : Nat} {i : Nat} {v : Nat} (lv' : List (Nat × Value)) (g : kG M E nL d mc ms cc own) (hd : decode cc pc = .ok (.astore i, 2)) (hn : i < nL) (hlv : (i, Value.ref v) :: lv.filter (fun q => !(q.1 == i) && !(q.1 + 1 == i && q.2.category == 2)) = lv') (k : kV M E nL cells slots ws lv' (pc + 2) st) : kV M E nL cells slots ws lv pc (Value.ref v :: st) := by
  obtain ⟨p, e, R, s, m, args, below, meth, c, A, Q⟩ := E
  obtain ⟨hx, hb, hml, hown, hts, hK, hA, hX, hR1, hR2, hR3, hR4⟩ := g
  intro H locs ls hP hD hS hl
  refine lv_astore hx hb hd hl hn hlv (fun ls2 hl2 => ?_)
  exact k H locs ls2 hP hD hS hl2
theorem z_iinc {pc i : Nat} {n v : Int} (q : Nat) (lv' : List (Nat × Value)) (g : kG M E nL d mc ms cc own) (hd : decode cc pc = .ok (.iinc i n, 3)) (hq : lv[q]? = some (i, .int (zI v))) (hn : i < nL) (hlv : (i, Value.int (zI (v + n))) :: lv.filter (fun q => !(q.1 == i) && !(q.1 + 1 == i && q.2.category == 2)) = lv') (k : kV M E nL cells slots ws lv' (pc + 3) st) : kV M E nL cells slots ws lv pc st := by
  obtain ⟨p, e, R, s, m, args, below, meth, c, A, Q⟩ := E
  obtain ⟨hx, hb, hml, hown, hts, hK, hA, hX, hR1, hR2, hR3, hR4⟩ := g
  intro H locs ls hP hD hS hl
  refine lv_iinc hx hb hd hl hq (zI_add v n) hn hlv (fun ls2 hl2 => ?_)
  exact k H locs ls2 hP hD hS hl2
theorem z_iadd {pc : Nat} {a b : Int} (g : kG M E nL d mc ms cc own) (hd : decode cc pc = .ok (.iadd, 1)) (k : kV M E nL cells slots ws lv (pc + 1) (.int (zI (a + b)) :: st)) : kV M E nL cells slots ws lv pc (.int (zI b) :: .int (zI a) :: st) := by
  obtain ⟨p, e, R, s, m, args, below, meth, c, A, Q⟩ := E
  obtain ⟨hx, hb, hml, hown, hts, hK, hA, hX, hR1, hR2, hR3, hR4⟩ := g
  intro H locs ls hP hD hS hl
  refine lv_iadd hx hb hd ?_
  rw [zI_add]
  exact k H locs ls hP hD hS hl
theorem z_isub {pc : Nat} {a b : Int} (g : kG M E nL d mc ms cc own) (hd : decode cc pc = .ok (.isub, 1)) (k : kV M E nL cells slots ws lv (pc + 1) (.int (zI (a - b)) :: st)) : kV M E nL cells slots ws lv pc (.int (zI b) :: .int (zI a) :: st) := by
  obtain ⟨p, e, R, s, m, args, below, meth, c, A, Q⟩ := E
  obtain ⟨hx, hb, hml, hown, hts, hK, hA, hX, hR1, hR2, hR3, hR4⟩ := g
  intro H locs ls hP hD hS hl
  refine lv_isub hx hb hd ?_
  rw [zI_sub]
  exact k H locs ls hP hD hS hl
theorem z_imul {pc : Nat} {a b : Int} (g : kG M E nL d mc ms cc own) (hd : decode cc pc = .ok (.imul, 1)) (k : kV M E nL cells slots ws lv (pc + 1) (.int (zI (a * b)) :: st)) : kV M E nL cells slots ws lv pc (.int (zI b) :: .int (zI a) :: st) := by
  obtain ⟨p, e, R, s, m, args, below, meth, c, A, Q⟩ := E
  obtain ⟨hx, hb, hml, hown, hts, hK, hA, hX, hR1, hR2, hR3, hR4⟩ := g
  intro H locs ls hP hD hS hl
  refine lv_imul hx hb hd ?_
  rw [zI_mul]
  exact k H locs ls hP hD hS hl
theorem z_iand {pc : Nat} {a b : Int} (g : kG M E nL d mc ms cc own) (hd : decode cc pc = .ok (.iand, 1)) (k : kV M E nL cells slots ws lv (pc + 1) (.int (zI (zAnd a b)) :: st)) : kV M E nL cells slots ws lv pc (.int (zI b) :: .int (zI a) :: st) := by
  obtain ⟨p, e, R, s, m, args, below, meth, c, A, Q⟩ := E
  obtain ⟨hx, hb, hml, hown, hts, hK, hA, hX, hR1, hR2, hR3, hR4⟩ := g
  intro H locs ls hP hD hS hl
  refine lv_iand hx hb hd ?_
  rw [show zI (zAnd a b) = _ from zI_self _] at k
  exact k H locs ls hP hD hS hl
theorem z_ior {pc : Nat} {a b : Int} (g : kG M E nL d mc ms cc own) (hd : decode cc pc = .ok (.ior, 1)) (k : kV M E nL cells slots ws lv (pc + 1) (.int (zI (zOr a b)) :: st)) : kV M E nL cells slots ws lv pc (.int (zI b) :: .int (zI a) :: st) := by
  obtain ⟨p, e, R, s, m, args, below, meth, c, A, Q⟩ := E
  obtain ⟨hx, hb, hml, hown, hts, hK, hA, hX, hR1, hR2, hR3, hR4⟩ := g
  intro H locs ls hP hD hS hl
  refine lv_ior hx hb hd ?_
  rw [show zI (zOr a b) = _ from zI_self _] at k
  exact k H locs ls hP hD hS hl
theorem z_ishl {pc : Nat} {a b : Int} (g : kG M E nL d mc ms cc own) (hd : decode cc pc = .ok (.ishl, 1)) (k : kV M E nL cells slots ws lv (pc + 1) (.int (zI (zShl a b)) :: st)) : kV M E nL cells slots ws lv pc (.int (zI b) :: .int (zI a) :: st) := by
  obtain ⟨p, e, R, s, m, args, below, meth, c, A, Q⟩ := E
  obtain ⟨hx, hb, hml, hown, hts, hK, hA, hX, hR1, hR2, hR3, hR4⟩ := g
  intro H locs ls hP hD hS hl
  refine lv_ishl hx hb hd ?_
  rw [show zI (zShl a b) = _ from zI_self _] at k
  exact k H locs ls hP hD hS hl
theorem z_ishr {pc : Nat} {a b : Int} (g : kG M E nL d mc ms cc own) (hd : decode cc pc = .ok (.ishr, 1)) (k : kV M E nL cells slots ws lv (pc + 1) (.int (zI (zShr a b)) :: st)) : kV M E nL cells slots ws lv pc (.int (zI b) :: .int (zI a) :: st) := by
  obtain ⟨p, e, R, s, m, args, below, meth, c, A, Q⟩ := E
  obtain ⟨hx, hb, hml, hown, hts, hK, hA, hX, hR1, hR2, hR3, hR4⟩ := g
  intro H locs ls hP hD hS hl
  refine lv_ishr hx hb hd ?_
  rw [show zI (zShr a b) = _ from zI_self _] at k
  exact k H locs ls hP hD hS hl
theorem z_idiv {pc : Nat} {a b : Int} (g : kG M E nL d mc ms cc own) (hd : decode cc pc = .ok (.idiv, 1)) (ha : zR a) (hb2 : zR b) (h0 : b ≠ 0) (k : kV M E nL cells slots ws lv (pc + 1) (.int (zI (a.tdiv b)) :: st)) : kV M E nL cells slots ws lv pc (.int (zI b) :: .int (zI a) :: st) := by
  obtain ⟨p, e, R, s, m, args, below, meth, c, A, Q⟩ := E
  obtain ⟨hx, hb, hml, hown, hts, hK, hA, hX, hR1, hR2, hR3, hR4⟩ := g
  intro H locs ls hP hD hS hl
  refine lv_idiv hx hb hd (fun e => h0 ((zI_inj hb2 zR_0).mp (by rw [zI_0]; exact e))) ?_
  rw [zI_div ha hb2]
  exact k H locs ls hP hD hS hl
theorem z_idivn {pc : Nat} {a b : Int} (g : kG M E nL d mc ms cc own) (hd : decode cc pc = .ok (.idiv, 1)) (ha0 : 0 ≤ a) (ha1 : a ≤ 2147483647) (hb0 : 0 < b) (hb1 : b ≤ 2147483647) (k : kV M E nL cells slots ws lv (pc + 1) (.int (zI (a / b)) :: st)) : kV M E nL cells slots ws lv pc (.int (zI b) :: .int (zI a) :: st) := by
  obtain ⟨p, e, R, s, m, args, below, meth, c, A, Q⟩ := E
  obtain ⟨hx, hb, hml, hown, hts, hK, hA, hX, hR1, hR2, hR3, hR4⟩ := g
  intro H locs ls hP hD hS hl
  have ha : zR a := ⟨by omega, by omega⟩
  have hb2 : zR b := ⟨by omega, by omega⟩
  refine lv_idiv hx hb hd (fun e => absurd ((zI_inj hb2 zR_0).mp (by rw [zI_0]; exact e)) (by omega)) ?_
  rw [zI_div ha hb2, Int.tdiv_eq_ediv_of_nonneg ha0]
  exact k H locs ls hP hD hS hl
theorem z_iremn {pc : Nat} {a b : Int} (g : kG M E nL d mc ms cc own) (hd : decode cc pc = .ok (.irem, 1)) (ha0 : 0 ≤ a) (ha1 : a ≤ 2147483647) (hb0 : 0 < b) (hb1 : b ≤ 2147483647) (k : kV M E nL cells slots ws lv (pc + 1) (.int (zI (a % b)) :: st)) : kV M E nL cells slots ws lv pc (.int (zI b) :: .int (zI a) :: st) := by
  obtain ⟨p, e, R, s, m, args, below, meth, c, A, Q⟩ := E
  obtain ⟨hx, hb, hml, hown, hts, hK, hA, hX, hR1, hR2, hR3, hR4⟩ := g
  intro H locs ls hP hD hS hl
  have ha : zR a := ⟨by omega, by omega⟩
  have hb2 : zR b := ⟨by omega, by omega⟩
  refine lv_irem hx hb hd (fun e => absurd ((zI_inj hb2 zR_0).mp (by rw [zI_0]; exact e)) (by omega)) ?_
  rw [zI_div ha hb2, Int.tdiv_eq_ediv_of_nonneg ha0, zI_mul, zI_sub, show a - a / b * b = a % b by rw [Int.emod_def, Int.mul_comm]]
  exact k H locs ls hP hD hS hl
theorem z_dup {pc : Nat} {v : Value} (g : kG M E nL d mc ms cc own) (hd : decode cc pc = .ok (.dup, 1)) (hv : v.category = 1) (k : kV M E nL cells slots ws lv (pc + 1) (v :: v :: st)) : kV M E nL cells slots ws lv pc (v :: st) := by
  obtain ⟨p, e, R, s, m, args, below, meth, c, A, Q⟩ := E
  obtain ⟨hx, hb, hml, hown, hts, hK, hA, hX, hR1, hR2, hR3, hR4⟩ := g
  intro H locs ls hP hD hS hl
  refine lv_dup hx hb hd hv ?_
  exact k H locs ls hP hD hS hl
theorem z_pop {pc : Nat} {v : Value} (g : kG M E nL d mc ms cc own) (hd : decode cc pc = .ok (.pop, 1)) (hv : v.category = 1) (k : kV M E nL cells slots ws lv (pc + 1) (st)) : kV M E nL cells slots ws lv pc (v :: st) := by
  obtain ⟨p, e, R, s, m, args, below, meth, c, A, Q⟩ := E
  obtain ⟨hx, hb, hml, hown, hts, hK, hA, hX, hR1, hR2, hR3, hR4⟩ := g
  intro H locs ls hP hD hS hl
  refine lv_pop hx hb hd hv ?_
  exact k H locs ls hP hD hS hl
theorem z_dup2 {pc : Nat} {v w : Value} (g : kG M E nL d mc ms cc own) (hd : decode cc pc = .ok (.dup2, 1)) (hv : v.category = 1) (hw : w.category = 1) (k : kV M E nL cells slots ws lv (pc + 1) (v :: w :: v :: w :: st)) : kV M E nL cells slots ws lv pc (v :: w :: st) := by
  obtain ⟨p, e, R, s, m, args, below, meth, c, A, Q⟩ := E
  obtain ⟨hx, hb, hml, hown, hts, hK, hA, hX, hR1, hR2, hR3, hR4⟩ := g
  intro H locs ls hP hD hS hl
  refine lv_dup2_11 hx hb hd hv hw ?_
  exact k H locs ls hP hD hS hl
theorem z_icmp_eq {pc : Nat} {a b off : Int} (tgt : Nat) (g : kG M E nL d mc ms cc own) (hd : decode cc pc = .ok (.if_icmp .eq off, 3)) (ht : (pc : Int) + off = (tgt : Int)) (ha : zR a) (hb2 : zR b) (kt : a = b → kV M E nL cells slots ws lv tgt st) (kf : ¬ a = b → kV M E nL cells slots ws lv (pc + 3) st) : kV M E nL cells slots ws lv pc (.int (zI b) :: .int (zI a) :: st) := by
  obtain ⟨p, e, R, s, m, args, below, meth, c, A, Q⟩ := E
  obtain ⟨hx, hb, hml, hown, hts, hK, hA, hX, hR1, hR2, hR3, hR4⟩ := g
  intro H locs ls hP hD hS hl
  exact lv_icmp_eq hx hb hd ht (fun h => kt ((zI_inj ha hb2).mp h) H locs ls hP hD hS hl) (fun h => kf (fun q => h ((zI_inj ha hb2).mpr q)) H locs ls hP hD hS hl)
theorem z_icmp_ne {pc : Nat} {a b off : Int} (tgt : Nat) (g : kG M E nL d mc ms cc own) (hd : decode cc pc = .ok (.if_icmp .ne off, 3)) (ht : (pc : Int) + off = (tgt : Int)) (ha : zR a) (hb2 : zR b) (kt : ¬ a = b → kV M E nL cells slots ws lv tgt st) (kf : a = b → kV M E nL cells slots ws lv (pc + 3) st) : kV M E nL cells slots ws lv pc (.int (zI b) :: .int (zI a) :: st) := by
  obtain ⟨p, e, R, s, m, args, below, meth, c, A, Q⟩ := E
  obtain ⟨hx, hb, hml, hown, hts, hK, hA, hX, hR1, hR2, hR3, hR4⟩ := g
  intro H locs ls hP hD hS hl
  exact lv_icmp_ne hx hb hd ht (fun h => kt ((not_congr (zI_inj ha hb2)).mp h) H locs ls hP hD hS hl) (fun h => kf ((zI_inj ha hb2).mp h) H locs ls hP hD hS hl)
theorem z_icmp_lt {pc : Nat} {a b off : Int} (tgt : Nat) (g : kG M E nL d mc ms cc own) (hd : decode cc pc = .ok (.if_icmp .lt off, 3)) (ht : (pc : Int) + off = (tgt : Int)) (ha : zR a) (hb2 : zR b) (kt : a < b → kV M E nL cells slots ws lv tgt st) (kf : ¬ a < b → kV M E nL cells slots ws lv (pc + 3) st) : kV M E nL cells slots ws lv pc (.int (zI b) :: .int (zI a) :: st) := by
  obtain ⟨p, e, R, s, m, args, below, meth, c, A, Q⟩ := E
  obtain ⟨hx, hb, hml, hown, hts, hK, hA, hX, hR1, hR2, hR3, hR4⟩ := g
  intro H locs ls hP hD hS hl
  exact lv_icmp_lt hx hb hd ht (fun h => kt ((zI_lt ha hb2).mp h) H locs ls hP hD hS hl) (fun h => kf (fun q => h ((zI_lt ha hb2).mpr q)) H locs ls hP hD hS hl)
theorem z_icmp_ge {pc : Nat} {a b off : Int} (tgt : Nat) (g : kG M E nL d mc ms cc own) (hd : decode cc pc = .ok (.if_icmp .ge off, 3)) (ht : (pc : Int) + off = (tgt : Int)) (ha : zR a) (hb2 : zR b) (kt : b ≤ a → kV M E nL cells slots ws lv tgt st) (kf : ¬ b ≤ a → kV M E nL cells slots ws lv (pc + 3) st) : kV M E nL cells slots ws lv pc (.int (zI b) :: .int (zI a) :: st) := by
  obtain ⟨p, e, R, s, m, args, below, meth, c, A, Q⟩ := E
  obtain ⟨hx, hb, hml, hown, hts, hK, hA, hX, hR1, hR2, hR3, hR4⟩ := g
  intro H locs ls hP hD hS hl
  exact lv_icmp_ge hx hb hd ht (fun h => kt ((zI_le hb2 ha).mp h) H locs ls hP hD hS hl) (fun h => kf (fun q => h ((zI_le hb2 ha).mpr q)) H locs ls hP hD hS hl)
theorem z_icmp_gt {pc : Nat} {a b off : Int} (tgt : Nat) (g : kG M E nL d mc ms cc own) (hd : decode cc pc = .ok (.if_icmp .gt off, 3)) (ht : (pc : Int) + off = (tgt : Int)) (ha : zR a) (hb2 : zR b) (kt : b < a → kV M E nL cells slots ws lv tgt st) (kf : ¬ b < a → kV M E nL cells slots ws lv (pc + 3) st) : kV M E nL cells slots ws lv pc (.int (zI b) :: .int (zI a) :: st) := by
  obtain ⟨p, e, R, s, m, args, below, meth, c, A, Q⟩ := E
  obtain ⟨hx, hb, hml, hown, hts, hK, hA, hX, hR1, hR2, hR3, hR4⟩ := g
  intro H locs ls hP hD hS hl
  exact lv_icmp_gt hx hb hd ht (fun h => kt ((zI_lt hb2 ha).mp h) H locs ls hP hD hS hl) (fun h => kf (fun q => h ((zI_lt hb2 ha).mpr q)) H locs ls hP hD hS hl)
theorem z_icmp_le {pc : Nat} {a b off : Int} (tgt : Nat) (g : kG M E nL d mc ms cc own) (hd : decode cc pc = .ok (.if_icmp .le off, 3)) (ht : (pc : Int) + off = (tgt : Int)) (ha : zR a) (hb2 : zR b) (kt : a ≤ b → kV M E nL cells slots ws lv tgt st) (kf : ¬ a ≤ b → kV M E nL cells slots ws lv (pc + 3) st) : kV M E nL cells slots ws lv pc (.int (zI b) :: .int (zI a) :: st) := by
  obtain ⟨p, e, R, s, m, args, below, meth, c, A, Q⟩ := E
  obtain ⟨hx, hb, hml, hown, hts, hK, hA, hX, hR1, hR2, hR3, hR4⟩ := g
  intro H locs ls hP hD hS hl
  exact lv_icmp_le hx hb hd ht (fun h => kt ((zI_le ha hb2).mp h) H locs ls hP hD hS hl) (fun h => kf (fun q => h ((zI_le ha hb2).mpr q)) H locs ls hP hD hS hl)
theorem z_if_eq {pc : Nat} {a off : Int} (tgt : Nat) (g : kG M E nL d mc ms cc own) (hd : decode cc pc = .ok (.ifCond .eq off, 3)) (ht : (pc : Int) + off = (tgt : Int)) (ha : zR a) (kt : a = 0 → kV M E nL cells slots ws lv tgt st) (kf : ¬ a = 0 → kV M E nL cells slots ws lv (pc + 3) st) : kV M E nL cells slots ws lv pc (.int (zI a) :: st) := by
  obtain ⟨p, e, R, s, m, args, below, meth, c, A, Q⟩ := E
  obtain ⟨hx, hb, hml, hown, hts, hK, hA, hX, hR1, hR2, hR3, hR4⟩ := g
  intro H locs ls hP hD hS hl
  exact lv_if_eq hx hb hd ht (fun h => kt ((zI_inj ha zR_0).mp (by rw [zI_0]; exact h)) H locs ls hP hD hS hl) (fun h => kf (fun q => h (by have h9 := (zI_inj ha zR_0).mpr q; rw [zI_0] at h9; exact h9)) H locs ls hP hD hS hl)
theorem z_if_ne {pc : Nat} {a off : Int} (tgt : Nat) (g : kG M E nL d mc ms cc own) (hd : decode cc pc = .ok (.ifCond .ne off, 3)) (ht : (pc : Int) + off = (tgt : Int)) (ha : zR a) (kt : ¬ a = 0 → kV M E nL cells slots ws lv tgt st) (kf : a = 0 → kV M E nL cells slots ws lv (pc + 3) st) : kV M E nL cells slots ws lv pc (.int (zI a) :: st) := by
  obtain ⟨p, e, R, s, m, args, below, meth, c, A, Q⟩ := E
  obtain ⟨hx, hb, hml, hown, hts, hK, hA, hX, hR1, hR2, hR3, hR4⟩ := g
  intro H locs ls hP hD hS hl
  exact lv_if_ne hx hb hd ht (fun h => kt ((not_congr (zI_inj ha zR_0)).mp (by rw [zI_0]; exact h)) H locs ls hP hD hS hl) (fun h => kf ((zI_inj ha zR_0).mp (by rw [zI_0]; exact h)) H locs ls hP hD hS hl)
theorem z_if_lt {pc : Nat} {a off : Int} (tgt : Nat) (g : kG M E nL d mc ms cc own) (hd : decode cc pc = .ok (.ifCond .lt off, 3)) (ht : (pc : Int) + off = (tgt : Int)) (ha : zR a) (kt : a < 0 → kV M E nL cells slots ws lv tgt st) (kf : ¬ a < 0 → kV M E nL cells slots ws lv (pc + 3) st) : kV M E nL cells slots ws lv pc (.int (zI a) :: st) := by
  obtain ⟨p, e, R, s, m, args, below, meth, c, A, Q⟩ := E
  obtain ⟨hx, hb, hml, hown, hts, hK, hA, hX, hR1, hR2, hR3, hR4⟩ := g
  intro H locs ls hP hD hS hl
  exact lv_if_lt hx hb hd ht (fun h => kt ((zI_lt ha zR_0).mp (by rw [zI_0]; exact h)) H locs ls hP hD hS hl) (fun h => kf (fun q => h (by have h9 := (zI_lt ha zR_0).mpr q; rw [zI_0] at h9; exact h9)) H locs ls hP hD hS hl)
theorem z_if_ge {pc : Nat} {a off : Int} (tgt : Nat) (g : kG M E nL d mc ms cc own) (hd : decode cc pc = .ok (.ifCond .ge off, 3)) (ht : (pc : Int) + off = (tgt : Int)) (ha : zR a) (kt : 0 ≤ a → kV M E nL cells slots ws lv tgt st) (kf : ¬ 0 ≤ a → kV M E nL cells slots ws lv (pc + 3) st) : kV M E nL cells slots ws lv pc (.int (zI a) :: st) := by
  obtain ⟨p, e, R, s, m, args, below, meth, c, A, Q⟩ := E
  obtain ⟨hx, hb, hml, hown, hts, hK, hA, hX, hR1, hR2, hR3, hR4⟩ := g
  intro H locs ls hP hD hS hl
  exact lv_if_ge hx hb hd ht (fun h => kt ((zI_le zR_0 ha).mp (by rw [zI_0]; exact h)) H locs ls hP hD hS hl) (fun h => kf (fun q => h (by have h9 := (zI_le zR_0 ha).mpr q; rw [zI_0] at h9; exact h9)) H locs ls hP hD hS hl)
theorem z_if_gt {pc : Nat} {a off : Int} (tgt : Nat) (g : kG M E nL d mc ms cc own) (hd : decode cc pc = .ok (.ifCond .gt off, 3)) (ht : (pc : Int) + off = (tgt : Int)) (ha : zR a) (kt : 0 < a → kV M E nL cells slots ws lv tgt st) (kf : ¬ 0 < a → kV M E nL cells slots ws lv (pc + 3) st) : kV M E nL cells slots ws lv pc (.int (zI a) :: st) := by
  obtain ⟨p, e, R, s, m, args, below, meth, c, A, Q⟩ := E
  obtain ⟨hx, hb, hml, hown, hts, hK, hA, hX, hR1, hR2, hR3, hR4⟩ := g
  intro H locs ls hP hD hS hl
  exact lv_if_gt hx hb hd ht (fun h => kt ((zI_lt zR_0 ha).mp (by rw [zI_0]; exact h)) H locs ls hP hD hS hl) (fun h => kf (fun q => h (by have h9 := (zI_lt zR_0 ha).mpr q; rw [zI_0] at h9; exact h9)) H locs ls hP hD hS hl)
theorem z_if_le {pc : Nat} {a off : Int} (tgt : Nat) (g : kG M E nL d mc ms cc own) (hd : decode cc pc = .ok (.ifCond .le off, 3)) (ht : (pc : Int) + off = (tgt : Int)) (ha : zR a) (kt : a ≤ 0 → kV M E nL cells slots ws lv tgt st) (kf : ¬ a ≤ 0 → kV M E nL cells slots ws lv (pc + 3) st) : kV M E nL cells slots ws lv pc (.int (zI a) :: st) := by
  obtain ⟨p, e, R, s, m, args, below, meth, c, A, Q⟩ := E
  obtain ⟨hx, hb, hml, hown, hts, hK, hA, hX, hR1, hR2, hR3, hR4⟩ := g
  intro H locs ls hP hD hS hl
  exact lv_if_le hx hb hd ht (fun h => kt ((zI_le ha zR_0).mp (by rw [zI_0]; exact h)) H locs ls hP hD hS hl) (fun h => kf (fun q => h (by have h9 := (zI_le ha zR_0).mpr q; rw [zI_0] at h9; exact h9)) H locs ls hP hD hS hl)
theorem z_goto {pc : Nat} {off : Int} (tgt : Nat) (g : kG M E nL d mc ms cc own) (hd : decode cc pc = .ok (.goto off, 3)) (ht : (pc : Int) + off = (tgt : Int)) (k : kV M E nL cells slots ws lv tgt st) : kV M E nL cells slots ws lv pc st := by
  obtain ⟨p, e, R, s, m, args, below, meth, c, A, Q⟩ := E
  obtain ⟨hx, hb, hml, hown, hts, hK, hA, hX, hR1, hR2, hR3, hR4⟩ := g
  intro H locs ls hP hD hS hl
  exact lv_goto hx hb hd ht (k H locs ls hP hD hS hl)
theorem z_tabOut {pc len : Nat} {dflt lo hi a : Int} {offs : Array Int} (tgt : Nat) (g : kG M E nL d mc ms cc own) (hd : decode cc pc = .ok (.tableswitch dflt lo hi offs, len)) (ha : zR a) (h : a < lo ∨ hi < a) (ht : (pc : Int) + dflt = (tgt : Int)) (k : kV M E nL cells slots ws lv tgt st) : kV M E nL cells slots ws lv pc (.int (zI a) :: st) := by
  obtain ⟨p, e, R, s, m, args, below, meth, c, A, Q⟩ := E
  obtain ⟨hx, hb, hml, hown, hts, hK, hA, hX, hR1, hR2, hR3, hR4⟩ := g
  intro H locs ls hP hD hS hl
  exact lv_tableOut hx hb hd (by rw [zI_toInt ha]; exact h) ht (k H locs ls hP hD hS hl)
theorem z_tabIn {pc len : Nat} {dflt lo hi a off : Int} {offs : Array Int} (tgt : Nat) (g : kG M E nL d mc ms cc own) (hd : decode cc pc = .ok (.tableswitch dflt lo hi offs, len)) (ha : zR a) (h1 : ¬ a < lo) (h2 : ¬ hi < a) (ho : offs[(a - lo).toNat]? = some off) (ht : (pc : Int) + off = (tgt : Int)) (k : kV M E nL cells slots ws lv tgt st) : kV M E nL cells slots ws lv pc (.int (zI a) :: st) := by
  obtain ⟨p, e, R, s, m, args, below, meth, c, A, Q⟩ := E
  obtain ⟨hx, hb, hml, hown, hts, hK, hA, hX, hR1, hR2, hR3, hR4⟩ := g
  intro H locs ls hP hD hS hl
  exact lv_tableIn hx hb hd (by rw [zI_toInt ha]; exact h1) (by rw [zI_toInt ha]; exact h2) (by rw [zI_toInt ha]; exact ho) ht (k H locs ls hP hD hS hl)
theorem z_nn {pc x : Nat} {off : Int} (tgt : Nat) (g : kG M E nL d mc ms cc own) (hd : decode cc pc = .ok (.ifnonnull off, 3)) (ht : (pc : Int) + off = (tgt : Int)) (k : kV M E nL cells slots ws lv tgt st) : kV M E nL cells slots ws lv pc (.ref x :: st) := by
  obtain ⟨p, e, R, s, m, args, below, meth, c, A, Q⟩ := E
  obtain ⟨hx, hb, hml, hown, hts, hK, hA, hX, hR1, hR2, hR3, hR4⟩ := g
  intro H locs ls hP hD hS hl
  exact lv_ifnonnull hx hb hd ht (k H locs ls hP hD hS hl)
theorem z_nnN {pc : Nat} {off : Int} (g : kG M E nL d mc ms cc own) (hd : decode cc pc = .ok (.ifnonnull off, 3)) (k : kV M E nL cells slots ws lv (pc + 3) st) : kV M E nL cells slots ws lv pc (.null :: st) := by
  obtain ⟨p, e, R, s, m, args, below, meth, c, A, Q⟩ := E
  obtain ⟨hx, hb, hml, hown, hts, hK, hA, hX, hR1, hR2, hR3, hR4⟩ := g
  intro H locs ls hP hD hS hl
  exact lv_ifnonnullN hx hb hd (k H locs ls hP hD hS hl)
/-- the world's cells in another order, or fewer -/
theorem z_sub {pc : Nat} (ws' : va_W) (is : List Nat) (hn : va_nd is = true) (hs : is.map (fun i => ws[i]?) = ws'.map some) (k : kV M E nL cells slots ws' lv pc st) : kV M E nL cells slots ws lv pc st := by
  obtain ⟨p, e, R, s, m, args, below, meth, c, A, Q⟩ := E
  intro H locs ls hP hD hS hl
  refine k H locs ls (fun j q hj => ?_) (hD.sub is hn hs) hS hl
  have h1 : (is.map (fun i => ws[i]?))[j]? = some (some q) := by rw [hs, List.getElem?_map, hj]; rfl
  rw [List.getElem?_map] at h1
  cases hi : is[j]? with
  | none => rw [hi] at h1; cases h1
  | some i => rw [hi] at h1; exact hP i q (Option.some.inj h1)
/-- locals: fewer, in another order -/
theorem z_lv {pc : Nat} (lv' : List (Nat × Value)) (is : List Nat) (hs : lv_pick lv is = lv') (k : kV M E nL cells slots ws lv' pc st) : kV M E nL cells slots ws lv pc st := by
  obtain ⟨p, e, R, s, m, args, below, meth, c, A, Q⟩ := E
  intro H locs ls hP hD hS hl
  exact k H locs ls hP hD hS (lv_sub hl is hs)
theorem z_widen {pc : Nat} {c2 s2 : Nat} (h1 : cells ≤ c2) (h2 : slots ≤ s2) (k : kV M E nL c2 s2 ws lv pc st) : kV M E nL cells slots ws lv pc st := by
  obtain ⟨p, e, R, s, m, args, below, meth, c, A, Q⟩ := E
  intro H locs ls hP hD hS hl
  exact W.widen h1 h2 (k H locs ls hP hD hS hl)
theorem arrV_cong {cA : ClassId} {n : Nat} {f g : Nat → Value} (h : ∀ j, j < n → f j = g j) : arrV cA n f = arrV cA n g := by
  unfold arrV
  congr 1
  apply Array.ext
  · simp
  · intro i h1 h2
    simp only [Array.getElem_ofFn]
    exact h i (by simpa using h1)
/-- a cell may be told in other words: a row is what it holds in its length -/
theorem va_P_cong {D : va_G} {ws ws' : va_W} {H : Heap} (h : ∀ (k : Nat) (q' : Nat × va_E), ws'[k]? = some q' → ∃ q, ws[k]? = some q ∧ (va_at D vwCl q H → va_at D vwCl q' H)) (hP : va_P D vwCl ws H) : va_P D vwCl ws' H := fun k q' hk => by
  obtain ⟨q, h1, h2⟩ := h k q' hk
  exact h2 (hP k q h1)
theorem z_fun {pc a n : Nat} {f : Nat → Int} (q0 : Nat) (f' : Nat → Int) (ws' : va_W) (he : ws[q0]? = some (cI M a n f)) (hf : ∀ j, j < n → f j = f' j) (hw : ws.set q0 (cI M a n f') = ws') (k : kV M E nL cells slots ws' lv pc st) : kV M E nL cells slots ws lv pc st := by
  obtain ⟨p, e, R, s, m, args, below, meth, c, A, Q⟩ := E
  intro H locs ls hP hD hS hl
  subst hw
  refine k H locs ls (hP.set hD he ?_ (fun q _ => rfl)) (hD.set he) hS hl
  have h1 := hP q0 _ he
  show H[a]? = some (vp_cell _ _)
  refine Eq.trans h1 (congrArg some ?_)
  exact arrV_cong (fun j hj => congrArg (fun z => Value.int (zI z)) (hf j hj))
theorem z_funZ {pc a n : Nat} {f : Nat → Int} (q0 : Nat) (f' : Nat → Int) (ws' : va_W) (he : ws[q0]? = some (cZ M a n f)) (hf : ∀ j, j < n → f j = f' j) (hw : ws.set q0 (cZ M a n f') = ws') (k : kV M E nL cells slots ws' lv pc st) : kV M E nL cells slots ws lv pc st := by
  obtain ⟨p, e, R, s, m, args, below, meth, c, A, Q⟩ := E
  intro H locs ls hP hD hS hl
  subst hw
  refine k H locs ls (hP.set hD he ?_ (fun q _ => rfl)) (hD.set he) hS hl
  have h1 := hP q0 _ he
  show H[a]? = some (vp_cell _ _)
  refine Eq.trans h1 (congrArg some ?_)
  exact arrV_cong (fun j hj => congrArg (fun z => Value.int (zI z)) (hf j hj))
/-- a field's link: class ci of the list, field k, read by own at index -/
def kFL (own : String) (index ci k : Nat) : Prop := ∃ (C : String) (T : u_T) (N : Nat), vwCl[ci]? = some (C, T, N) ∧ k < N ∧ Cond.fieldLink own index (T k).1 (T k).2.1 (T k).2.2.1 ∈ wsA ∧ ∀ w ∈ u_ws C T N, w ∈ wsA
/-- and written: its type, and whether it is final -/
def kFP (own : String) (index ci k : Nat) (ty : FieldType) (fin : Bool) : Prop := ∃ (C : String) (T : u_T) (N : Nat) (ty0 : Nat → FieldType), vwCl[ci]? = some (C, T, N) ∧ k < N ∧ Cond.fieldLink own index (T k).1 (T k).2.1 (T k).2.2.1 ∈ wsA ∧ (∀ w ∈ u_ws C T N, w ∈ wsA) ∧ (∀ k, k < N → parseFieldDescriptor (T k).2.2.1 = some (ty0 k)) ∧ (∀ a, a < N → ∀ b, b < N → a ≠ b → (T a).2.1 ≠ (T b).2.1) ∧ (T k).2.2.2 = fin ∧ parseFieldDescriptor (T k).2.2.1 = some ty ∧ (fin = true → (T k).1 = own)
theorem z_get {pc index ci k h : Nat} {fs : List Value} {v : Value} (q0 : Nat) (g : kG M E nL d mc ms cc own) (hf : kFL own index ci k) (hd : decode cc pc = .ok (.getfield index, 3)) (he : ws[q0]? = some (cO ci h fs)) (hv : fs[k]? = some v) (kk : kV M E nL cells slots ws lv (pc + 3) (v :: st)) : kV M E nL cells slots ws lv pc (.ref h :: st) := by
  obtain ⟨p, e, R, s, m, args, below, meth, c, A, Q⟩ := E
  obtain ⟨hx, hb, hml, hown, hts, hK, hA, hX, hR1, hR2, hR3, hR4⟩ := g
  intro H locs ls hP hD hS hl
  obtain ⟨C, T, N, hc, hk, hlink, hin⟩ := hf
  exact va_get hx hb hts hin hown hK hP q0 he hc k hk (hts _ hlink) (fun _ h9 => h9) hv hd (kk H locs ls hP hD hS hl)
theorem z_put {pc index ci k h : Nat} {fs : List Value} {v : Value} {ty : FieldType} (q0 : Nat) (ws' : va_W) (g : kG M E nL d mc ms cc own) (hf : kFP own index ci k ty false) (hd : decode cc pc = .ok (.putfield index, 3)) (he : ws[q0]? = some (cO ci h fs)) (hn : narrow ty v = v) (hfit : fits ty v = true) (hl0 : k < fs.length) (hw : ws.set q0 (cO ci h (fs.set k v)) = ws') (kk : kV M E nL cells slots ws' lv (pc + 3) st) : kV M E nL cells slots ws lv pc (v :: .ref h :: st) := by
  obtain ⟨p, e, R, s, m, args, below, meth, c, A, Q⟩ := E
  obtain ⟨hx, hb, hml, hown, hts, hK, hA, hX, hR1, hR2, hR3, hR4⟩ := g
  intro H locs ls hP hD hS hl
  obtain ⟨C, T, N, ty0, hc, hk, hlink, hin, hty, hnm, hfin, hdesc, -⟩ := hf
  subst hw
  exact va_put hx hb hts hin ty0 hty hnm hown hK hP hD hS q0 he hc k hk (hts _ hlink) (fun _ h9 => h9) hfin hdesc hn hfit hl0 hd (fun H1 locs1 hP1 hD1 hS1 => kk H1 locs1 ls hP1 hD1 hS1 hl)
theorem z_putF {pc index ci k h : Nat} {fs : List Value} {v : Value} {ty : FieldType} (q0 : Nat) (ws' : va_W) (g : kG M E nL d mc ms cc own) (hi : kN E "<init>") (hf : kFP own index ci k ty true) (hd : decode cc pc = .ok (.putfield index, 3)) (he : ws[q0]? = some (cO ci h fs)) (hn : narrow ty v = v) (hfit : fits ty v = true) (hl0 : k < fs.length) (hw : ws.set q0 (cO ci h (fs.set k v)) = ws') (kk : kV M E nL cells slots ws' lv (pc + 3) st) : kV M E nL cells slots ws lv pc (v :: .ref h :: st) := by
  obtain ⟨p, e, R, s, m, args, below, meth, c, A, Q⟩ := E
  obtain ⟨hx, hb, hml, hown, hts, hK, hA, hX, hR1, hR2, hR3, hR4⟩ := g
  intro H locs ls hP hD hS hl
  obtain ⟨C, T, N, ty0, hc, hk, hlink, hin, hty, hnm, hfin, hdesc, hdecl⟩ := hf
  subst hw
  exact va_putF hx hb hts hin ty0 hty hnm hown hK hP hD hS q0 he hc k hk (hts _ hlink) (fun _ h9 => h9) hfin hi (hdecl rfl) hdesc hn hfit hl0 hd (fun H1 locs1 hP1 hD1 hS1 => kk H1 locs1 ls hP1 hD1 hS1 hl)
theorem z_iald {pc a n : Nat} {f : Nat → Int} {z : Int} (q0 k : Nat) (g : kG M E nL d mc ms cc own) (hd : decode cc pc = .ok (.iaload, 1)) (he : ws[q0]? = some (cI M a n f)) (hz : z = (k : Int)) (hk : k < n) (hn : n < 2147483648) (kk : kV M E nL cells slots ws lv (pc + 1) (.int (zI (f k)) :: st)) : kV M E nL cells slots ws lv pc (.int (zI z) :: .ref a :: st) := by
  obtain ⟨p, e, R, s, m, args, below, meth, c, A, Q⟩ := E
  obtain ⟨hx, hb, hml, hown, hts, hK, hA, hX, hR1, hR2, hR3, hR4⟩ := g
  intro H locs ls hP hD hS hl
  refine va_iald hx hb hK hP q0 0 he rfl (zI_in hz hk hn) hd ?_
  rw [zI_clamp hz (by omega)]
  exact kk H locs ls hP hD hS hl
theorem z_zald {pc a n : Nat} {f : Nat → Int} {z : Int} (q0 k : Nat) (g : kG M E nL d mc ms cc own) (hd : decode cc pc = .ok (.baload, 1)) (he : ws[q0]? = some (cZ M a n f)) (hz : z = (k : Int)) (hk : k < n) (hn : n < 2147483648) (kk : kV M E nL cells slots ws lv (pc + 1) (.int (zI (f k)) :: st)) : kV M E nL cells slots ws lv pc (.int (zI z) :: .ref a :: st) := by
  obtain ⟨p, e, R, s, m, args, below, meth, c, A, Q⟩ := E
  obtain ⟨hx, hb, hml, hown, hts, hK, hA, hX, hR1, hR2, hR3, hR4⟩ := g
  intro H locs ls hP hD hS hl
  refine va_zald hx hb hK hP q0 1 he rfl (zI_in hz hk hn) hd ?_
  rw [zI_clamp hz (by omega)]
  exact kk H locs ls hP hD hS hl
theorem z_iast {pc a n : Nat} {f : Nat → Int} {z x : Int} (q0 k : Nat) (ws' : va_W) (g : kG M E nL d mc ms cc own) (hd : decode cc pc = .ok (.iastore, 1)) (he : ws[q0]? = some (cI M a n f)) (hz : z = (k : Int)) (hk : k < n) (hn : n < 2147483648) (hw : ws.set q0 (cI M a n (zU f k x)) = ws') (kk : kV M E nL cells slots ws' lv (pc + 1) st) : kV M E nL cells slots ws lv pc (.int (zI x) :: .int (zI z) :: .ref a :: st) := by
  obtain ⟨p, e, R, s, m, args, below, meth, c, A, Q⟩ := E
  obtain ⟨hx, hb, hml, hown, hts, hK, hA, hX, hR1, hR2, hR3, hR4⟩ := g
  intro H locs ls hP hD hS hl
  subst hw
  refine va_iast hx hb hK hP hD hS q0 0 he rfl (zI_in hz hk hn) hd (fun H1 locs1 hP1 hD1 hS1 => ?_)
  rw [zI_clamp hz (by omega), zU_zI] at hP1 hD1
  exact kk H1 locs1 ls hP1 hD1 hS1 hl
theorem zI_nar {x : Int} (h : x = 0 ∨ x = 1) : vp_nar .boolean (zI x) = zI x := by
  rcases h with rfl | rfl <;> decide +kernel
theorem z_zast {pc a n : Nat} {f : Nat → Int} {z x : Int} (q0 k : Nat) (ws' : va_W) (g : kG M E nL d mc ms cc own) (hd : decode cc pc = .ok (.bastore, 1)) (he : ws[q0]? = some (cZ M a n f)) (hz : z = (k : Int)) (hk : k < n) (hn : n < 2147483648) (h01 : x = 0 ∨ x = 1) (hw : ws.set q0 (cZ M a n (zU f k x)) = ws') (kk : kV M E nL cells slots ws' lv (pc + 1) st) : kV M E nL cells slots ws lv pc (.int (zI x) :: .int (zI z) :: .ref a :: st) := by
  obtain ⟨p, e, R, s, m, args, below, meth, c, A, Q⟩ := E
  obtain ⟨hx, hb, hml, hown, hts, hK, hA, hX, hR1, hR2, hR3, hR4⟩ := g
  intro H locs ls hP hD hS hl
  subst hw
  refine va_zast hx hb hK hP hD hS q0 1 he rfl (zI_in hz hk hn) hd (fun H1 locs1 hP1 hD1 hS1 => ?_)
  rw [zI_clamp hz (by omega), zI_nar h01, zU_zI] at hP1 hD1
  exact kk H1 locs1 ls hP1 hD1 hS1 hl
theorem z_tald {pc a n : Nat} {f : Nat → Option Nat} {z : Int} (q0 k : Nat) (g : kG M E nL d mc ms cc own) (hd : decode cc pc = .ok (.aaload, 1)) (he : ws[q0]? = some (cT M a n f)) (hz : z = (k : Int)) (hk : k < n) (hn : n < 2147483648) (kk : kV M E nL cells slots ws lv (pc + 1) (va_rf (f k) :: st)) : kV M E nL cells slots ws lv pc (.int (zI z) :: .ref a :: st) := by
  obtain ⟨p, e, R, s, m, args, below, meth, c, A, Q⟩ := E
  obtain ⟨hx, hb, hml, hown, hts, hK, hA, hX, hR1, hR2, hR3, hR4⟩ := g
  intro H locs ls hP hD hS hl
  refine va_aldq hx hb hK hP q0 2 he rfl (zI_in hz hk hn) hd ?_
  rw [zI_clamp hz (by omega)]
  exact kk H locs ls hP hD hS hl
theorem z_gald {pc a n : Nat} {f : Nat → Option Nat} {z : Int} (q0 k : Nat) (g : kG M E nL d mc ms cc own) (hd : decode cc pc = .ok (.aaload, 1)) (he : ws[q0]? = some (cG M a n f)) (hz : z = (k : Int)) (hk : k < n) (hn : n < 2147483648) (kk : kV M E nL cells slots ws lv (pc + 1) (va_rf (f k) :: st)) : kV M E nL cells slots ws lv pc (.int (zI z) :: .ref a :: st) := by
  obtain ⟨p, e, R, s, m, args, below, meth, c, A, Q⟩ := E
  obtain ⟨hx, hb, hml, hown, hts, hK, hA, hX, hR1, hR2, hR3, hR4⟩ := g
  intro H locs ls hP hD hS hl
  have hin : vp_in (zI z) n := zI_in hz hk hn
  have hlt : (zI z).toNatClampNeg < n := Nat.not_le.mp fun q => hin (Or.inr q)
  refine W.aald (v := va_rf (f (zI z).toNatClampNeg)) (ty := .array .int) hx hb (hP q0 _ he) ((hK.2 3 _ rfl).1 n (fun j => va_rf (f j))) rfl (fun q => by cases q) (by show ¬ (zI z < 0 ∨ (arrV _ _ _).slots.size ≤ _); rw [arrV_size]; exact hin) (by show (arrV _ _ _).slots[_]? = _; rw [arrV_read _ _ hlt]) rfl rfl hd ?_
  rw [zI_clamp hz (by omega)]
  exact kk H locs ls hP hD hS hl
theorem z_tast {pc a n v : Nat} {f : Nat → Option Nat} {vs : List Value} {z : Int} (q0 qk k : Nat) (ws' : va_W) (g : kG M E nL d mc ms cc own) (hd : decode cc pc = .ok (.aastore, 1)) (he : ws[q0]? = some (cT M a n f)) (hv : ws[qk]? = some (cO 9 v vs)) (hz : z = (k : Int)) (hk : k < n) (hn : n < 2147483648) (hw : ws.set q0 (cT M a n (va_up f k (some v))) = ws') (kk : kV M E nL cells slots ws' lv (pc + 1) st) : kV M E nL cells slots ws lv pc (.ref v :: .int (zI z) :: .ref a :: st) := by
  obtain ⟨p, e, R, s, m, args, below, meth, c, A, Q⟩ := E
  obtain ⟨hx, hb, hml, hown, hts, hK, hA, hX, hR1, hR2, hR3, hR4⟩ := g
  intro H locs ls hP hD hS hl
  subst hw
  refine va_astq (r := (RX9, TX9, 10)) hx hb hK hP hD hS q0 2 qk 9 he rfl hv rfl (zI_in hz hk hn) hd (fun H1 locs1 hP1 hD1 hS1 => ?_)
  rw [zI_clamp hz (by omega)] at hP1 hD1
  exact kk H1 locs1 ls hP1 hD1 hS1 hl
theorem zI_nneg {n : Nat} (h : n < 2147483648) : ¬ zI (n : Int) < 0 := by
  rw [zI_nat]
  exact nI_pos (by omega)
theorem z_newaI {pc n : Nat} {z : Int} (g : kG M E nL d mc ms cc own) (hd : decode cc pc = .ok (.newarray .int, 2)) (harr : Cond.arrayClass .int ∈ wsA) (hz : z = (n : Int)) (hn : n ≤ 100000) (hc : cells + 1 ≤ mc) (hs : slots + n ≤ ms) (kk : ∀ q : Nat, kV M E nL (cells + 1) (slots + n) (ws ++ [cI M q n (fun _ => 0)]) lv (pc + 2) (.ref q :: st)) : kV M E nL cells slots ws lv pc (.int (zI z) :: st) := by
  obtain ⟨p, e, R, s, m, args, below, meth, c, A, Q⟩ := E
  obtain ⟨hx, hb, hml, hown, hts, hK, hA, hX, hR1, hR2, hR3, hR4⟩ := g
  intro H locs ls hP hD hS hl
  subst hz
  refine va_newa (atype := .int) (ty := .int) (a0 := (n, .inl (fun _ => zI 0))) hx hb (hts _ harr) rfl hK hP hD hS hA (fun cA => by rw [vp_cell_i, zI_0]; rfl) (zI_nneg (by omega)) (zI_clamp rfl (by omega)) (by show n * 4 ≤ 536870912; omega) (by omega) (by omega) hd (fun q cA H1 hK1 hP1 hD1 hS1 => ?_)
  have e1 := (hK1.2 4 _ rfl).2
  have e2 := (hK.2 0 _ rfl).2
  have e3 : some cA = some (M.2.1 0) := (va_nm_int e1).symm.trans (va_nm_int e2)
  cases e3
  exact kk q H1 locs ls hP1 hD1 hS1 hl
theorem z_newaZ {pc n : Nat} {z : Int} (g : kG M E nL d mc ms cc own) (hd : decode cc pc = .ok (.newarray .boolean, 2)) (harr : Cond.arrayClass .boolean ∈ wsA) (hz : z = (n : Int)) (hn : n ≤ 100000) (hc : cells + 1 ≤ mc) (hs : slots + n ≤ ms) (kk : ∀ q : Nat, kV M E nL (cells + 1) (slots + n) (ws ++ [cZ M q n (fun _ => 0)]) lv (pc + 2) (.ref q :: st)) : kV M E nL cells slots ws lv pc (.int (zI z) :: st) := by
  obtain ⟨p, e, R, s, m, args, below, meth, c, A, Q⟩ := E
  obtain ⟨hx, hb, hml, hown, hts, hK, hA, hX, hR1, hR2, hR3, hR4⟩ := g
  intro H locs ls hP hD hS hl
  subst hz
  refine va_newa (atype := .boolean) (ty := .boolean) (a0 := (n, .inl (fun _ => zI 0))) hx hb (hts _ harr) rfl hK hP hD hS hA (fun cA => by rw [vp_cell_i, zI_0]; rfl) (zI_nneg (by omega)) (zI_clamp rfl (by omega)) (by show n * 1 ≤ 536870912; omega) (by omega) (by omega) hd (fun q cA H1 hK1 hP1 hD1 hS1 => ?_)
  have e1 := (hK1.2 4 _ rfl).2
  have e2 := (hK.2 1 _ rfl).2
  have e3 : some cA = some (M.2.1 1) := (va_nm_boolean e1).symm.trans (va_nm_boolean e2)
  cases e3
  exact kk q H1 locs ls hP1 hD1 hS1 hl
theorem z_newaT {pc n index : Nat} {z : Int} (g : kG M E nL d mc ms cc own) (hd : decode cc pc = .ok (.anewarray index, 3)) (hcl : Cond.classLink own index RX9 ∈ wsA) (hz : z = (n : Int)) (hn : n ≤ 100000) (hc : cells + 1 ≤ mc) (hs : slots + n ≤ ms) (kk : ∀ q : Nat, kV M E nL (cells + 1) (slots + n) (ws ++ [cT M q n (fun _ => none)]) lv (pc + 3) (.ref q :: st)) : kV M E nL cells slots ws lv pc (.int (zI z) :: st) := by
  obtain ⟨p, e, R, s, m, args, below, meth, c, A, Q⟩ := E
  obtain ⟨hx, hb, hml, hown, hts, hK, hA, hX, hR1, hR2, hR3, hR4⟩ := g
  intro H locs ls hP hD hS hl
  subst hz
  refine va_newq (C := RX9) hx hb hown (hts _ hcl) hX.2.2.2.2.2.2.2.2.2.1 hK hP hD hS hA (zI_nneg (by omega)) (zI_clamp rfl (by omega)) (by omega) (by omega) (by omega) hd (fun q cA H1 hK1 hP1 hD1 hS1 => ?_)
  obtain ⟨-, -, -, -, -, e1⟩ := (hK1.2 4 _ rfl).2
  obtain ⟨-, -, -, -, -, e2⟩ := (hK.2 2 _ rfl).2
  have e3 : some cA = some (M.2.1 2) := e1.symm.trans e2
  cases e3
  exact kk q H1 locs ls hP1 hD1 hS1 hl
/-- a class of the list that may be made -/
def kNW (own : String) (index ci : Nat) (fs : List Value) : Prop := ∃ (C : String) (T : u_T) (N : Nat) (ty : Nat → FieldType), vwCl[ci]? = some (C, T, N) ∧ (∀ w ∈ u_ws C T N, w ∈ wsA) ∧ (∀ k, k < N → parseFieldDescriptor (T k).2.2.1 = some (ty k)) ∧ Cond.classLink own index C ∈ wsA ∧ Cond.instantiable C N ∈ wsA ∧ Cond.initialized C ∈ wsA ∧ (∀ j, j < N → defaultValue (ty j) = vp_V fs j) ∧ N = fs.length
theorem z_new {pc index ci : Nat} {fs : List Value} (g : kG M E nL d mc ms cc own) (hf : kNW own index ci fs) (hd : decode cc pc = .ok (.new index, 3)) (hc : cells + 1 ≤ mc) (hs : slots + fs.length ≤ ms) (kk : ∀ q : Nat, kV M E nL (cells + 1) (slots + fs.length) (ws ++ [cO ci q fs]) lv (pc + 3) (.ref q :: st)) : kV M E nL cells slots ws lv pc st := by
  obtain ⟨p, e, R, s, m, args, below, meth, c, A, Q⟩ := E
  obtain ⟨hx, hb, hml, hown, hts, hK, hA, hX, hR1, hR2, hR3, hR4⟩ := g
  intro H locs ls hP hD hS hl
  obtain ⟨C, T, N, ty, hcl, hin, hty, h1, h2, h3, h4, h5⟩ := hf
  subst h5
  exact va_new hx hb hts hin ty hty hown (hts _ h1) (hts _ h2) (hts _ h3) hK hP hD hS hA hcl h4 (by omega) (by omega) hd (fun q H1 hP1 hD1 hS1 => kk q H1 locs ls hP1 hD1 hS1 hl)
theorem z_obj {pc index a : Nat} (g : kG M E nL d mc ms cc own) (hd : decode cc pc = .ok (.invokespecial index, 3)) (hlk : Cond.methodLink own index objectInit ∈ wsA) (hin : Cond.instanceMethod objectInit ∈ wsA) (hco : Cond.code objectInit ⟨#[0xb1]⟩ 1 none ∈ wsA) (h1 : 1 ≤ d) (hst : (st.map fun v => v.category).sum ≤ 8) (kk : kV M E nL cells slots ws lv (pc + 3) st) : kV M E nL cells slots ws lv pc (.ref a :: st) := by
  obtain ⟨p, e, R, s, m, args, below, meth, c, A, Q⟩ := E
  obtain ⟨hx, hb, hml, hown, hts, hK, hA, hX, hR1, hR2, hR3, hR4⟩ := g
  intro H locs ls hP hD hS hl
  refine W.objInit hx hb hown (hts _ hlk) (hts _ hin) (hts _ hco) rfl (by rw [hml]; exact hl.1) rfl hd (by omega) ?_ ?_
  · have := lv_room (m := m) (pc := pc) (ls := ls) (rest := st) hst
    have h9 : 2 * (F0 m pc ls (.ref a :: st)).monitorRoom + (st.map fun v => v.category).sum ≤ 8 := lv_room hst
    omega
  · exact W.eq (g2 := F0 m (pc + 3) ls st) rfl (kk H locs ls hP hD hS hl)
theorem z_min {pc index : Nat} {a b : Int} (g : kG M E nL d mc ms cc own) (hd : decode cc pc = .ok (.invokestatic index, 3)) (hlk : Cond.methodLink own index Lib.Math.min.name ∈ wsA) (hst : Cond.static Lib.Math.min.name ∈ wsA) (hin : Cond.initialized "java/lang/Math" ∈ wsA) (hco : Cond.code Lib.Math.min.name Lib.Math.min.code 2 (some .int) ∈ wsA) (h1 : 1 ≤ d) (hs8 : (st.map fun v => v.category).sum ≤ 8) (hc : cells ≤ mc) (hs : slots ≤ ms) (ha : zR a) (hb2 : zR b) (kk : kV M E nL cells slots ws lv (pc + 3) (.int (zI (if b < a then b else a)) :: st)) : kV M E nL cells slots ws lv pc (.int (zI b) :: .int (zI a) :: st) := by
  obtain ⟨p, e, R, s, m, args, below, meth, c, A, Q⟩ := E
  obtain ⟨hx, hb, hml, hown, hts, hK, hA, hX, hR1, hR2, hR3, hR4⟩ := g
  intro H locs ls hP hD hS hl
  refine va_mmin hx hb (by rw [hml]; exact hl.1.symm) hown (hts _ hlk) (hts _ hst) (hts _ hin) (hts _ hco) (by omega) (by omega) (by omega) (by omega) hd ?_
  have e : (if zI b < zI a then zI b else zI a) = zI (if b < a then b else a) := by
    by_cases h : b < a
    · rw [if_pos h, if_pos ((zI_lt hb2 ha).mpr h)]
    · rw [if_neg h, if_neg (fun q => h ((zI_lt hb2 ha).mp q))]
  rw [e]
  exact kk H locs ls hP hD hS hl
theorem z_max {pc index : Nat} {a b : Int} (g : kG M E nL d mc ms cc own) (hd : decode cc pc = .ok (.invokestatic index, 3)) (hlk : Cond.methodLink own index Lib.Math.max.name ∈ wsA) (hst : Cond.static Lib.Math.max.name ∈ wsA) (hin : Cond.initialized "java/lang/Math" ∈ wsA) (hco : Cond.code Lib.Math.max.name Lib.Math.max.code 2 (some .int) ∈ wsA) (h1 : 1 ≤ d) (hs8 : (st.map fun v => v.category).sum ≤ 8) (hc : cells ≤ mc) (hs : slots ≤ ms) (ha : zR a) (hb2 : zR b) (kk : kV M E nL cells slots ws lv (pc + 3) (.int (zI (if a < b then b else a)) :: st)) : kV M E nL cells slots ws lv pc (.int (zI b) :: .int (zI a) :: st) := by
  obtain ⟨p, e, R, s, m, args, below, meth, c, A, Q⟩ := E
  obtain ⟨hx, hb, hml, hown, hts, hK, hA, hX, hR1, hR2, hR3, hR4⟩ := g
  intro H locs ls hP hD hS hl
  refine va_mmax hx hb (by rw [hml]; exact hl.1.symm) hown (hts _ hlk) (hts _ hst) (hts _ hin) (hts _ hco) (by omega) (by omega) (by omega) (by omega) hd ?_
  have e : (if zI a < zI b then zI b else zI a) = zI (if a < b then b else a) := by
    by_cases h : a < b
    · rw [if_pos h, if_pos ((zI_lt ha hb2).mpr h)]
    · rw [if_neg h, if_neg (fun q => h ((zI_lt ha hb2).mp q))]
  rw [e]
  exact kk H locs ls hP hD hS hl
/-- arraycopy of a whole row of ints onto one of the same length -/
theorem z_copy {pc index a0 a n : Nat} {f f2 : Nat → Int} {z : Int} (q0 q1 : Nat) (ws' : va_W) (g : kG M E nL d mc ms cc own) (hd : decode cc pc = .ok (.invokestatic index, 3)) (hlk : Cond.methodLink own index arraycopyName ∈ wsA) (hna : Cond.native arraycopyName ∈ wsA) (hsta : Cond.static arraycopyName ∈ wsA) (hin : Cond.initialized "java/lang/System" ∈ wsA) (h1 : 1 ≤ d) (hs8 : (st.map fun v => v.category).sum ≤ 8) (he0 : ws[q0]? = some (cI M a0 n f)) (he1 : ws[q1]? = some (cI M a n f2)) (hz : z = (n : Int)) (hn : n < 2147483648) (hw : ws.set q1 (cI M a n f) = ws') (kk : kV M E nL cells slots ws' lv (pc + 3) st) : kV M E nL cells slots ws lv pc (.int (zI z) :: .int (zI 0) :: .ref a :: .int (zI 0) :: .ref a0 :: st) := by
  obtain ⟨p, e, R, s, m, args, below, meth, c, A, Q⟩ := E
  obtain ⟨hx, hb, hml, hown, hts, hK, hA, hX, hR1, hR2, hR3, hR4⟩ := g
  intro H locs ls hP hD hS hl
  subst hw
  have hc0 : (zI 0).toNatClampNeg = 0 := zI_clamp (k := 0) rfl (by omega)
  have hcz : (zI z).toNatClampNeg = n := zI_clamp hz hn
  have hnat : nativeFrameWords "java/lang/System" "arraycopy" 5 ≤ 16 := by decide +kernel
  refine va_copyi hx hb (by rw [hml]; exact hl.1.symm) hown (hts _ hlk) (hts _ hna) (hts _ hsta) (hts _ hin) hK hP hD hS q0 q1 0 0 he0 he1 rfl rfl rfl (by rw [zI_0]; decide) (by rw [zI_0]; decide) (by rw [hz]; exact zI_nneg hn) (by rw [hc0, hcz]; omega) (by rw [hc0, hcz]; omega) (fun i _ => rfl) (by omega) (by omega) hd (fun H1 locs1 hP1 hD1 hS1 => ?_)
  rw [hc0, hcz] at hP1 hD1
  have hset : va_P M.1 vwCl (ws.set q1 (cI M a n f)) H1 := by
    refine va_P_cong (fun k q' hk => ?_) hP1
    have hlt := (List.getElem?_eq_some_iff.mp he1).1
    by_cases hkq : k = q1
    · subst hkq
      rw [List.getElem?_set_self hlt] at hk
      cases hk
      refine ⟨_, List.getElem?_set_self hlt, fun h => ?_⟩
      show H1[a]? = some (vp_cell _ _)
      refine Eq.trans h (congrArg some ?_)
      refine arrV_cong (f := fun j => Value.int (va_cpy (fun j => zI (f j)) (fun j => zI (f2 j)) 0 0 n j)) (g := fun j => Value.int (zI (f j))) (fun j hj => ?_)
      have hj : j < n := hj
      show Value.int (va_cpy (fun j => zI (f j)) (fun j => zI (f2 j)) 0 0 n j) = Value.int (zI (f j))
      rw [pk_cpy_in (Nat.zero_le j) (by omega)]
      simp
    · rw [List.getElem?_set_ne (Ne.symm hkq)] at hk
      exact ⟨q', by rw [List.getElem?_set_ne (Ne.symm hkq)]; exact hk, id⟩
  exact kk H1 locs1 ls hset (hD.set he1) hS1 hl

theorem va_P.subm {D : va_G} {cl : List vw_C} {ws ws' : va_W} {H : Heap} (h : va_P D cl ws H) (is : List Nat) (hs : is.map (fun i => ws[i]?) = ws'.map some) : va_P D cl ws' H := by
  intro j q hj
  have h1 : (is.map (fun i => ws[i]?))[j]? = some (some q) := by rw [hs, List.getElem?_map, hj]; rfl
  rw [List.getElem?_map] at h1
  cases hi : is[j]? with
  | none => rw [hi] at h1; cases h1
  | some i => rw [hi] at h1; exact h i q (Option.some.inj h1)
/-- a method that an object of class ci of the list answers by itself -/
def kYV (y : MethodName) (bytes : ByteArray) (maxL : Nat) (rt : Option FieldType) (ci n : Nat) : Prop := Cond.code y bytes maxL rt ∈ wsA ∧ Cond.instanceMethod y ∈ wsA ∧ Cond.selects y.cls y y ∈ wsA ∧ Cond.initialized y.cls ∈ wsA ∧ (y.cls ≠ "java/lang/invoke/MethodHandle" ∧ y.cls ≠ "java/lang/invoke/VarHandle" ∧ (parseMethodDescriptor y.desc).map (fun d => d.parameters.length) = some n) ∧ maxL ≤ 16 ∧ ∃ (T : u_T) (N : Nat), vwCl[ci]? = some (y.cls, T, N)
def kYS (y : MethodName) (bytes : ByteArray) (maxL : Nat) (rt : Option FieldType) (n : Nat) : Prop := Cond.code y bytes maxL rt ∈ wsA ∧ Cond.static y ∈ wsA ∧ Cond.initialized y.cls ∈ wsA ∧ (y.cls ≠ "java/lang/invoke/MethodHandle" ∧ y.cls ≠ "java/lang/invoke/VarHandle" ∧ (parseMethodDescriptor y.desc).map (fun d => d.parameters.length) = some n) ∧ maxL ≤ 16
def kYI (y : MethodName) (bytes : ByteArray) (maxL : Nat) : Prop := Cond.code y bytes maxL none ∈ wsA ∧ Cond.instanceMethod y ∈ wsA ∧ Cond.initialized y.cls ∈ wsA ∧ (y.cls ≠ "java/lang/invoke/MethodHandle" ∧ y.cls ≠ "java/lang/invoke/VarHandle" ∧ (parseMethodDescriptor y.desc).map (fun d => d.parameters.length) = some 0) ∧ maxL ≤ 16 ∧ y.name = "<init>"
set_option maxHeartbeats 4000000 in
theorem z_callVi {S : Type} {pc index maxL n d' mc' ms' ci b : Nat} {y : MethodName} {bytes : ByteArray} {rt : FieldType} {wc wr : va_W} {post : Int → S → Prop} {w' : S → va_W} {fs As stk : List Value} (isC isR pm : List Nat) (ws' : S → va_W) (g : kG M E nL d mc ms cc own) (hM : kCI M y bytes maxL rt d' mc' ms' wc (.ref b :: As) post w') (hY : kYV y bytes maxL (some rt) ci n) (hlk : Cond.methodLink own index y ∈ wsA) (hd : decode cc pc = .ok (.invokevirtual index, 3)) (hdd : d' + 1 ≤ d) (hc : cells + mc' ≤ mc) (hs : slots + ms' ≤ ms) (hs8 : (st.map fun v => v.category).sum ≤ 8) (hC : isC.map (fun i => ws[i]?) = wc.map some) (hR : isR.map (fun i => ws[i]?) = wr.map some) (hndC : va_nd isC = true) (hnd : va_nd isR = true) (hdis : ∀ i ∈ isR, i ∉ isC) (hrec : wc[0]? = some (cO ci b fs)) (hpm : ∀ u, pm.map (fun i => (wr ++ w' u)[i]?) = (ws' u).map some) (hndp : va_nd pm = true) (hn : As.length = n) (hstk : stk = As.reverse ++ .ref b :: st)
    (kk : ∀ (z : Int) (u : S), post z u → kV M E nL (cells + mc') (slots + ms') (ws' u) lv (pc + 3) (.int (zI z) :: st)) : kV M E nL cells slots ws lv pc stk := by
  subst hstk
  obtain ⟨p, e, R, s, m, args, below, meth, c, A, Q⟩ := E
  obtain ⟨hx, hb, hml, hown, hts, hK, hA, hX, hR1, hR2, hR3, hR4⟩ := g
  intro H locs ls hP hD hS hl
  have hPc := hP.subm isC hC
  have hDc := hD.sub isC hndC hC
  have hFc := va_free (wc := wc) hD hS hA isC hC
  have hG : GoodIn wsA (.code y bytes maxL (some rt) :: wsA) := wsL_in hY.1
  obtain ⟨y1, y2, y3, y4, y5, y6, T, N, y7⟩ := hY
  have hcb : CallB R s args own index y bytes maxL (some rt) (.code y bytes maxL (some rt) :: wsA) (rmD d' mc' ms') mc' ms' n := callB_of n hts hG rfl rfl rfl (hts _ y4) (hts _ hlk) y5 ⟨by show d' + 1 ≤ R.frames; omega, by show 8 + (maxL + 11) + 35 * d' ≤ R.locals; omega⟩
  refine va_calli (va_runV (As := As) (rest := st) ⟨hx, hb, hml, hown, hts⟩ (hM H.size) ⟨hcb, hts _ y2, hts _ y3⟩ ⟨kPre.blind, va_recv hK hPc y7 hrec, fun U hU hW => ⟨rfl, by rw [hU], by rw [hU]; exact hPc, va_K.moved hW.alike hK, hDc.weaken (fun _ _ _ _ => trivial), hX.warm hW⟩⟩ rfl hn hl.1 rfl (lv_room hs8) hd ⟨by omega, by omega⟩) hS (fun q _ h => hFc q h) hFc (fun r u t H1 locs1 ht hvm hw hB hz1 hk1 hS1 => ?_)
  obtain ⟨z, rfl, hp⟩ := hw
  obtain ⟨hP1, hD1⟩ := hB
  rw [ht] at hP1
  obtain ⟨hP2, hD2⟩ := va_join (wr := wr) (w1 := w' u) hP hD isC isR hC hR hnd hdis hk1 hFc hP1 hD1
  exact kk z u hp H1 locs1 ls (hP2.subm pm (hpm u)) (hD2.sub pm hndp (hpm u)) hS1 hl
set_option maxHeartbeats 4000000 in
theorem z_callWi {S : Type} {pc index maxL n d' mc' ms' ci b : Nat} {y : MethodName} {bytes : ByteArray} {rt : FieldType} {post : Int → S → Prop} {w' : S → va_W} {fs As stk : List Value} (g : kG M E nL d mc ms cc own) (hM : kCI M y bytes maxL rt d' mc' ms' ws (.ref b :: As) post w') (hY : kYV y bytes maxL (some rt) ci n) (hlk : Cond.methodLink own index y ∈ wsA) (hd : decode cc pc = .ok (.invokevirtual index, 3)) (hdd : d' + 1 ≤ d) (hc : cells + mc' ≤ mc) (hs : slots + ms' ≤ ms) (hs8 : (st.map fun v => v.category).sum ≤ 8) (hrec : ws[0]? = some (cO ci b fs)) (hn : As.length = n) (hstk : stk = As.reverse ++ .ref b :: st)
    (kk : ∀ (z : Int) (u : S), post z u → kV M E nL (cells + mc') (slots + ms') (w' u) lv (pc + 3) (.int (zI z) :: st)) : kV M E nL cells slots ws lv pc stk := by
  subst hstk
  obtain ⟨p, e, R, s, m, args, below, meth, c, A, Q⟩ := E
  obtain ⟨hx, hb, hml, hown, hts, hK, hA, hX, hR1, hR2, hR3, hR4⟩ := g
  intro H locs ls hP hD hS hl
  have hPc := hP
  have hDc := hD
  have hFc : ∀ q, va_A ws H.size q → A q := by
    intro q h
    rcases h with ⟨k, e, h⟩ | h
    · exact hD.2 k (q, e) h
    · exact hA q (Nat.le_trans hS.1 h)
  have hG : GoodIn wsA (.code y bytes maxL (some rt) :: wsA) := wsL_in hY.1
  obtain ⟨y1, y2, y3, y4, y5, y6, T, N, y7⟩ := hY
  have hcb : CallB R s args own index y bytes maxL (some rt) (.code y bytes maxL (some rt) :: wsA) (rmD d' mc' ms') mc' ms' n := callB_of n hts hG rfl rfl rfl (hts _ y4) (hts _ hlk) y5 ⟨by show d' + 1 ≤ R.frames; omega, by show 8 + (maxL + 11) + 35 * d' ≤ R.locals; omega⟩
  refine va_calli (va_runV (As := As) (rest := st) ⟨hx, hb, hml, hown, hts⟩ (hM H.size) ⟨hcb, hts _ y2, hts _ y3⟩ ⟨kPre.blind, va_recv hK hPc y7 hrec, fun U hU hW => ⟨rfl, by rw [hU], by rw [hU]; exact hPc, va_K.moved hW.alike hK, hDc.weaken (fun _ _ _ _ => trivial), hX.warm hW⟩⟩ rfl hn hl.1 rfl (lv_room hs8) hd ⟨by omega, by omega⟩) hS (fun q _ h => hFc q h) hFc (fun r u t H1 locs1 ht hvm hw hB hz1 hk1 hS1 => ?_)
  obtain ⟨z, rfl, hp⟩ := hw
  obtain ⟨hP1, hD1⟩ := hB
  rw [ht] at hP1
  exact kk z u hp H1 locs1 ls hP1 (hD1.weaken (fun _ q _ h => hFc q.1 h)) hS1 hl
set_option maxHeartbeats 4000000 in
theorem z_callVv {S : Type} {pc index maxL n d' mc' ms' ci b : Nat} {y : MethodName} {bytes : ByteArray} {wc wr : va_W} {post : S → Prop} {w' : S → va_W} {fs As stk : List Value} (isC isR pm : List Nat) (ws' : S → va_W) (g : kG M E nL d mc ms cc own) (hM : kCV M y bytes maxL d' mc' ms' wc (.ref b :: As) post w') (hY : kYV y bytes maxL none ci n) (hlk : Cond.methodLink own index y ∈ wsA) (hd : decode cc pc = .ok (.invokevirtual index, 3)) (hdd : d' + 1 ≤ d) (hc : cells + mc' ≤ mc) (hs : slots + ms' ≤ ms) (hs8 : (st.map fun v => v.category).sum ≤ 8) (hC : isC.map (fun i => ws[i]?) = wc.map some) (hR : isR.map (fun i => ws[i]?) = wr.map some) (hndC : va_nd isC = true) (hnd : va_nd isR = true) (hdis : ∀ i ∈ isR, i ∉ isC) (hrec : wc[0]? = some (cO ci b fs)) (hpm : ∀ u, pm.map (fun i => (wr ++ w' u)[i]?) = (ws' u).map some) (hndp : va_nd pm = true) (hn : As.length = n) (hstk : stk = As.reverse ++ .ref b :: st)
    (kk : ∀ u : S, post u → kV M E nL (cells + mc') (slots + ms') (ws' u) lv (pc + 3) st) : kV M E nL cells slots ws lv pc stk := by
  subst hstk
  obtain ⟨p, e, R, s, m, args, below, meth, c, A, Q⟩ := E
  obtain ⟨hx, hb, hml, hown, hts, hK, hA, hX, hR1, hR2, hR3, hR4⟩ := g
  intro H locs ls hP hD hS hl
  have hPc := hP.subm isC hC
  have hDc := hD.sub isC hndC hC
  have hFc := va_free (wc := wc) hD hS hA isC hC
  have hG : GoodIn wsA (.code y bytes maxL none :: wsA) := wsL_in hY.1
  obtain ⟨y1, y2, y3, y4, y5, y6, T, N, y7⟩ := hY
  have hcb : CallB R s args own index y bytes maxL none (.code y bytes maxL none :: wsA) (rmD d' mc' ms') mc' ms' n := callB_of n hts hG rfl rfl rfl (hts _ y4) (hts _ hlk) y5 ⟨by show d' + 1 ≤ R.frames; omega, by show 8 + (maxL + 11) + 35 * d' ≤ R.locals; omega⟩
  refine va_callv (va_runV (As := As) (rest := st) ⟨hx, hb, hml, hown, hts⟩ (hM H.size) ⟨hcb, hts _ y2, hts _ y3⟩ ⟨kPre.blind, va_recv hK hPc y7 hrec, fun U hU hW => ⟨rfl, by rw [hU], by rw [hU]; exact hPc, va_K.moved hW.alike hK, hDc.weaken (fun _ _ _ _ => trivial), hX.warm hW⟩⟩ rfl hn hl.1 rfl (lv_room hs8) hd ⟨by omega, by omega⟩) hS (fun q _ h => hFc q h) hFc (fun u t H1 locs1 ht hvm hp hB hz1 hk1 hS1 => ?_)
  obtain ⟨hP1, hD1⟩ := hB
  rw [ht] at hP1
  obtain ⟨hP2, hD2⟩ := va_join (wr := wr) (w1 := w' u) hP hD isC isR hC hR hnd hdis hk1 hFc hP1 hD1
  exact kk u hp H1 locs1 ls (hP2.subm pm (hpm u)) (hD2.sub pm hndp (hpm u)) hS1 hl
set_option maxHeartbeats 4000000 in
theorem z_callWv {S : Type} {pc index maxL n d' mc' ms' ci b : Nat} {y : MethodName} {bytes : ByteArray} {post : S → Prop} {w' : S → va_W} {fs As stk : List Value} (g : kG M E nL d mc ms cc own) (hM : kCV M y bytes maxL d' mc' ms' ws (.ref b :: As) post w') (hY : kYV y bytes maxL none ci n) (hlk : Cond.methodLink own index y ∈ wsA) (hd : decode cc pc = .ok (.invokevirtual index, 3)) (hdd : d' + 1 ≤ d) (hc : cells + mc' ≤ mc) (hs : slots + ms' ≤ ms) (hs8 : (st.map fun v => v.category).sum ≤ 8) (hrec : ws[0]? = some (cO ci b fs)) (hn : As.length = n) (hstk : stk = As.reverse ++ .ref b :: st)
    (kk : ∀ u : S, post u → kV M E nL (cells + mc') (slots + ms') (w' u) lv (pc + 3) st) : kV M E nL cells slots ws lv pc stk := by
  subst hstk
  obtain ⟨p, e, R, s, m, args, below, meth, c, A, Q⟩ := E
  obtain ⟨hx, hb, hml, hown, hts, hK, hA, hX, hR1, hR2, hR3, hR4⟩ := g
  intro H locs ls hP hD hS hl
  have hPc := hP
  have hDc := hD
  have hFc : ∀ q, va_A ws H.size q → A q := by
    intro q h
    rcases h with ⟨k, e, h⟩ | h
    · exact hD.2 k (q, e) h
    · exact hA q (Nat.le_trans hS.1 h)
  have hG : GoodIn wsA (.code y bytes maxL none :: wsA) := wsL_in hY.1
  obtain ⟨y1, y2, y3, y4, y5, y6, T, N, y7⟩ := hY
  have hcb : CallB R s args own index y bytes maxL none (.code y bytes maxL none :: wsA) (rmD d' mc' ms') mc' ms' n := callB_of n hts hG rfl rfl rfl (hts _ y4) (hts _ hlk) y5 ⟨by show d' + 1 ≤ R.frames; omega, by show 8 + (maxL + 11) + 35 * d' ≤ R.locals; omega⟩
  refine va_callv (va_runV (As := As) (rest := st) ⟨hx, hb, hml, hown, hts⟩ (hM H.size) ⟨hcb, hts _ y2, hts _ y3⟩ ⟨kPre.blind, va_recv hK hPc y7 hrec, fun U hU hW => ⟨rfl, by rw [hU], by rw [hU]; exact hPc, va_K.moved hW.alike hK, hDc.weaken (fun _ _ _ _ => trivial), hX.warm hW⟩⟩ rfl hn hl.1 rfl (lv_room hs8) hd ⟨by omega, by omega⟩) hS (fun q _ h => hFc q h) hFc (fun u t H1 locs1 ht hvm hp hB hz1 hk1 hS1 => ?_)
  obtain ⟨hP1, hD1⟩ := hB
  rw [ht] at hP1
  exact kk u hp H1 locs1 ls hP1 (hD1.weaken (fun _ q _ h => hFc q.1 h)) hS1 hl
set_option maxHeartbeats 4000000 in
theorem z_callS {S : Type} {pc index maxL n d' : Nat} {y : MethodName} {bytes : ByteArray} {rt : FieldType} {post : Int → S → Prop} {As stk : List Value} (g : kG M E nL d mc ms cc own) (hM : kCI M y bytes maxL rt d' 0 0 [] As post (fun _ => [])) (hY : kYS y bytes maxL (some rt) n) (hlk : Cond.methodLink own index y ∈ wsA) (hd : decode cc pc = .ok (.invokestatic index, 3)) (hdd : d' + 1 ≤ d) (hc : cells ≤ mc) (hs : slots ≤ ms) (hs8 : (st.map fun v => v.category).sum ≤ 8) (hn : As.length = n) (hstk : stk = As.reverse ++ st)
    (kk : ∀ (z : Int) (u : S), post z u → kV M E nL cells slots ws lv (pc + 3) (.int (zI z) :: st)) : kV M E nL cells slots ws lv pc stk := by
  subst hstk
  obtain ⟨p, e, R, s, m, args, below, meth, c, A, Q⟩ := E
  obtain ⟨hx, hb, hml, hown, hts, hK, hA, hX, hR1, hR2, hR3, hR4⟩ := g
  intro H locs ls hP hD hS hl
  have hFc : ∀ q, va_A [] H.size q → A q := by
    intro q h
    rcases h with ⟨k, e, h⟩ | h
    · simp at h
    · exact hA q (Nat.le_trans hS.1 h)
  have hG : GoodIn wsA (.code y bytes maxL (some rt) :: wsA) := wsL_in hY.1
  obtain ⟨y1, y2, y4, y5, y6⟩ := hY
  have hcb : CallB R s args own index y bytes maxL (some rt) (.code y bytes maxL (some rt) :: wsA) (rmD d' 0 0) 0 0 n := callB_of n hts hG rfl rfl rfl (hts _ y4) (hts _ hlk) y5 ⟨by show d' + 1 ≤ R.frames; omega, by show 8 + (maxL + 11) + 35 * d' ≤ R.locals; omega⟩
  refine va_calli (va_runS (As := As) (rest := st) ⟨hx, hb, hml, hown, hts⟩ (hM H.size) ⟨hcb, hts _ y2⟩ ⟨kPre.blind, fun U hU hW => ⟨rfl, by rw [hU], fun k q h => by simp at h, va_K.moved hW.alike hK, ⟨fun i j p q h => by simp at h, fun k q h => by simp at h⟩, hX.warm hW⟩⟩ rfl hn hl.1 rfl (lv_room hs8) hd ⟨by omega, by omega⟩) hS (fun q _ h => hFc q h) hFc (fun r u t H1 locs1 ht hvm hw hB hz1 hk1 hS1 => ?_)
  obtain ⟨z, rfl, hp⟩ := hw
  have hPk : va_P M.1 vwCl ws H1 := hP.kept (fun k q hk => hk1 q.1 ((hP k q hk).lt) (by
    rintro (⟨k2, e2, h2⟩ | h2)
    · simp at h2
    · have := (hP k q hk).lt
      omega))
  exact kk z u hp H1 locs1 ls hPk hD hS1 hl
set_option maxHeartbeats 4000000 in
theorem z_callI {S : Type} {pc index maxL d' mc' ms' b : Nat} {y : MethodName} {bytes : ByteArray} {wc wr : va_W} {post : S → Prop} {w' : S → va_W} (isC isR pm : List Nat) (ws' : S → va_W) (g : kG M E nL d mc ms cc own) (hM : kCV M y bytes maxL d' mc' ms' wc [.ref b] post w') (hY : kYI y bytes maxL) (hlk : Cond.methodLink own index y ∈ wsA) (hd : decode cc pc = .ok (.invokespecial index, 3)) (hdd : d' + 1 ≤ d) (hc : cells + mc' ≤ mc) (hs : slots + ms' ≤ ms) (hs8 : (st.map fun v => v.category).sum ≤ 8) (hC : isC.map (fun i => ws[i]?) = wc.map some) (hR : isR.map (fun i => ws[i]?) = wr.map some) (hndC : va_nd isC = true) (hnd : va_nd isR = true) (hdis : ∀ i ∈ isR, i ∉ isC) (hpm : ∀ u, pm.map (fun i => (wr ++ w' u)[i]?) = (ws' u).map some) (hndp : va_nd pm = true)
    (kk : ∀ u : S, post u → kV M E nL (cells + mc') (slots + ms') (ws' u) lv (pc + 3) st) : kV M E nL cells slots ws lv pc (.ref b :: st) := by
  obtain ⟨p, e, R, s, m, args, below, meth, c, A, Q⟩ := E
  obtain ⟨hx, hb, hml, hown, hts, hK, hA, hX, hR1, hR2, hR3, hR4⟩ := g
  intro H locs ls hP hD hS hl
  have hPc := hP.subm isC hC
  have hDc := hD.sub isC hndC hC
  have hFc := va_free (wc := wc) hD hS hA isC hC
  have hG : GoodIn wsA (.code y bytes maxL none :: wsA) := wsL_in hY.1
  obtain ⟨y1, y2, y4, y5, y6, y7⟩ := hY
  have hcb : CallB R s args own index y bytes maxL none (.code y bytes maxL none :: wsA) (rmD d' mc' ms') mc' ms' 0 := callB_of 0 hts hG rfl rfl rfl (hts _ y4) (hts _ hlk) y5 ⟨by show d' + 1 ≤ R.frames; omega, by show 8 + (maxL + 11) + 35 * d' ≤ R.locals; omega⟩
  refine va_callv (va_runI (As := []) (rest := st) ⟨hx, hb, hml, hown, hts⟩ (hM H.size) ⟨hcb, y7, hts _ y2⟩ ⟨kPre.blind, fun U hU hW => ⟨rfl, by rw [hU], by rw [hU]; exact hPc, va_K.moved hW.alike hK, hDc.weaken (fun _ _ _ _ => trivial), hX.warm hW⟩⟩ rfl rfl hl.1 rfl (lv_room hs8) hd ⟨by omega, by omega⟩) hS (fun q _ h => hFc q h) hFc (fun u t H1 locs1 ht hvm hp hB hz1 hk1 hS1 => ?_)
  obtain ⟨hP1, hD1⟩ := hB
  rw [ht] at hP1
  obtain ⟨hP2, hD2⟩ := va_join (wr := wr) (w1 := w' u) hP hD isC isR hC hR hnd hdis hk1 hFc hP1 hD1
  exact kk u hp H1 locs1 ls (hP2.subm pm (hpm u)) (hD2.sub pm hndp (hpm u)) hS1 hl
set_option maxHeartbeats 4000000 in
theorem z_callIN {S : Type} {pc index maxL d' mc' ms' b : Nat} {y : MethodName} {bytes : ByteArray} {wc wr : va_W} {post : S → Prop} {w' : S → va_W} (isC isR pm : List Nat) (ws' : S → va_W) (g : kG M E nL d mc ms cc own) (hM : kCV M y bytes maxL d' mc' ms' wc [.ref b] post w') (hY : kYI y bytes maxL) (hN : ∀ U, kX U → va_Nw (.methodLinkNest own index y RX10) U) (hd : decode cc pc = .ok (.invokespecial index, 3)) (hdd : d' + 1 ≤ d) (hc : cells + mc' ≤ mc) (hs : slots + ms' ≤ ms) (hs8 : (st.map fun v => v.category).sum ≤ 8) (hC : isC.map (fun i => ws[i]?) = wc.map some) (hR : isR.map (fun i => ws[i]?) = wr.map some) (hndC : va_nd isC = true) (hnd : va_nd isR = true) (hdis : ∀ i ∈ isR, i ∉ isC) (hpm : ∀ u, pm.map (fun i => (wr ++ w' u)[i]?) = (ws' u).map some) (hndp : va_nd pm = true)
    (kk : ∀ u : S, post u → kV M E nL (cells + mc') (slots + ms') (ws' u) lv (pc + 3) st) : kV M E nL cells slots ws lv pc (.ref b :: st) := by
  obtain ⟨p, e, R, s, m, args, below, meth, c, A, Q⟩ := E
  obtain ⟨hx, hb, hml, hown, hts, hK, hA, hX, hR1, hR2, hR3, hR4⟩ := g
  intro H locs ls hP hD hS hl
  have hPc := hP.subm isC hC
  have hDc := hD.sub isC hndC hC
  have hFc := va_free (wc := wc) hD hS hA isC hC
  have hG : GoodIn wsA (.code y bytes maxL none :: wsA) := wsL_in hY.1
  obtain ⟨y1, y2, y4, y5, y6, y7⟩ := hY
  have hcb := va_cnB (R := R) (host := RX10) (mc := mc') (ms := ms') 0 hts hG rfl rfl rfl (hN s hX) (hts _ y4) y5 (rm := rmD d' mc' ms') ⟨by show d' + 1 ≤ R.frames; omega, by show 8 + (maxL + 11) + 35 * d' ≤ R.locals; omega⟩
  refine va_callv (va_runIN (As := []) (rest := st) ⟨hx, hb, hml, hown, hts⟩ (hM H.size) ⟨hcb, y7, hts _ y2⟩ ⟨kPre.blind, fun U hU hW => ⟨rfl, by rw [hU], by rw [hU]; exact hPc, va_K.moved hW.alike hK, hDc.weaken (fun _ _ _ _ => trivial), hX.warm hW⟩⟩ rfl rfl hl.1 rfl (lv_room hs8) hd ⟨by omega, by omega⟩) hS (fun q _ h => hFc q h) hFc (fun u t H1 locs1 ht hvm hp hB hz1 hk1 hS1 => ?_)
  obtain ⟨hP1, hD1⟩ := hB
  rw [ht] at hP1
  obtain ⟨hP2, hD2⟩ := va_join (wr := wr) (w1 := w' u) hP hD isC isR hC hR hnd hdis hk1 hFc hP1 hD1
  exact kk u hp H1 locs1 ls (hP2.subm pm (hpm u)) (hD2.sub pm hndp (hpm u)) hS1 hl
/-- the law's script -/
def kS (E : KE) (b L : Nat) (xs : Nat → Int32) : Prop :=
  match E with
  | (_, _, _, s, _, _, _, _, _, A, _) => va_X b L xs s s.heap ∧ b < s.heap.size ∧ ¬ A b
theorem z_sld {pc b L : Nat} {xs : Nat → Int32} {z : Int} (k : Nat) (g : kG M E nL d mc ms cc own) (hs : kS E b L xs) (hd : decode cc pc = .ok (.iaload, 1)) (hz : z = (k : Int)) (hk : k < L) (hL : L < 2147483648) (kk : kV M E nL cells slots ws lv (pc + 1) (.int (zI (xs k).toInt) :: st)) : kV M E nL cells slots ws lv pc (.int (zI z) :: .ref b :: st) := by
  obtain ⟨p, e, R, s, m, args, below, meth, c, A, Q⟩ := E
  obtain ⟨hx, hb, hml, hown, hts, hK, hA, hX, hR1, hR2, hR3, hR4⟩ := g
  intro H locs ls hP hD hS hl
  obtain ⟨hX1, hX2, hX3⟩ := hs
  refine va_sld hx hb hX1 hX2 hX3 hS (zI_in hz hk hL) hd ?_
  rw [zI_clamp hz (by omega)]
  rw [zI_self] at kk
  exact kk H locs ls hP hD hS hl
theorem z_slen {pc b L : Nat} {xs : Nat → Int32} (g : kG M E nL d mc ms cc own) (hs : kS E b L xs) (hd : decode cc pc = .ok (.arraylength, 1)) (kk : kV M E nL cells slots ws lv (pc + 1) (.int (zI (L : Int)) :: st)) : kV M E nL cells slots ws lv pc (.ref b :: st) := by
  obtain ⟨p, e, R, s, m, args, below, meth, c, A, Q⟩ := E
  obtain ⟨hx, hb, hml, hown, hts, hK, hA, hX, hR1, hR2, hR3, hR4⟩ := g
  intro H locs ls hP hD hS hl
  obtain ⟨hX1, hX2, hX3⟩ := hs
  refine va_slen hx hb hX1 hX2 hX3 hS hd ?_
  rw [zI_nat] at kk
  exact kk H locs ls hP hD hS hl
end KR
end
section
set_option maxRecDepth 20000 in
theorem in_X0 : ∀ w ∈ u_ws RX0 TX0 4, w ∈ wsA := List.forall_mem_cons.mpr ⟨wsA_1 40 rfl rfl, List.forall_mem_cons.mpr ⟨wsA_1 42 rfl rfl, List.forall_mem_cons.mpr ⟨wsA_1 44 rfl rfl, List.forall_mem_cons.mpr ⟨wsA_1 46 rfl rfl, fun _ h => absurd h List.not_mem_nil⟩⟩⟩⟩
set_option maxRecDepth 20000 in
theorem in_X1 : ∀ w ∈ u_ws RX1 TX1 6, w ∈ wsA := List.forall_mem_cons.mpr ⟨wsA_1 226 rfl rfl, List.forall_mem_cons.mpr ⟨wsA_1 228 rfl rfl, List.forall_mem_cons.mpr ⟨wsA_1 230 rfl rfl, List.forall_mem_cons.mpr ⟨wsA_1 232 rfl rfl, List.forall_mem_cons.mpr ⟨wsA_1 234 rfl rfl, List.forall_mem_cons.mpr ⟨wsA_1 236 rfl rfl, fun _ h => absurd h List.not_mem_nil⟩⟩⟩⟩⟩⟩
set_option maxRecDepth 20000 in
theorem in_X2 : ∀ w ∈ u_ws RX2 TX2 3, w ∈ wsA := List.forall_mem_cons.mpr ⟨wsA_1 102 rfl rfl, List.forall_mem_cons.mpr ⟨wsA_1 104 rfl rfl, List.forall_mem_cons.mpr ⟨wsA_1 106 rfl rfl, fun _ h => absurd h List.not_mem_nil⟩⟩⟩
set_option maxRecDepth 20000 in
theorem in_X3 : ∀ w ∈ u_ws RX3 TX3 3, w ∈ wsA := List.forall_mem_cons.mpr ⟨wsA_1 180 rfl rfl, List.forall_mem_cons.mpr ⟨wsA_1 182 rfl rfl, List.forall_mem_cons.mpr ⟨wsA_1 184 rfl rfl, fun _ h => absurd h List.not_mem_nil⟩⟩⟩
set_option maxRecDepth 20000 in
theorem in_X4 : ∀ w ∈ u_ws RX4 TX4 2, w ∈ wsA := List.forall_mem_cons.mpr ⟨wsA_1 60 rfl rfl, List.forall_mem_cons.mpr ⟨wsA_1 62 rfl rfl, fun _ h => absurd h List.not_mem_nil⟩⟩
set_option maxRecDepth 20000 in
theorem in_X5 : ∀ w ∈ u_ws RX5 TX5 2, w ∈ wsA := List.forall_mem_cons.mpr ⟨wsA_1 74 rfl rfl, List.forall_mem_cons.mpr ⟨wsA_1 76 rfl rfl, fun _ h => absurd h List.not_mem_nil⟩⟩
set_option maxRecDepth 20000 in
theorem in_X6 : ∀ w ∈ u_ws RX6 TX6 2, w ∈ wsA := List.forall_mem_cons.mpr ⟨wsA_1 88 rfl rfl, List.forall_mem_cons.mpr ⟨wsA_1 90 rfl rfl, fun _ h => absurd h List.not_mem_nil⟩⟩
set_option maxRecDepth 20000 in
theorem in_X7 : ∀ w ∈ u_ws RX7 TX7 6, w ∈ wsA := List.forall_mem_cons.mpr ⟨wsA_1 199 rfl rfl, List.forall_mem_cons.mpr ⟨wsA_1 201 rfl rfl, List.forall_mem_cons.mpr ⟨wsA_1 203 rfl rfl, List.forall_mem_cons.mpr ⟨wsA_1 205 rfl rfl, List.forall_mem_cons.mpr ⟨wsA_1 207 rfl rfl, List.forall_mem_cons.mpr ⟨wsA_1 209 rfl rfl, fun _ h => absurd h List.not_mem_nil⟩⟩⟩⟩⟩⟩
set_option maxRecDepth 20000 in
theorem in_X8 : ∀ w ∈ u_ws RX8 TX8 4, w ∈ wsA := List.forall_mem_cons.mpr ⟨wsA_1 120 rfl rfl, List.forall_mem_cons.mpr ⟨wsA_1 122 rfl rfl, List.forall_mem_cons.mpr ⟨wsA_1 124 rfl rfl, List.forall_mem_cons.mpr ⟨wsA_1 126 rfl rfl, fun _ h => absurd h List.not_mem_nil⟩⟩⟩⟩
set_option maxRecDepth 20000 in
theorem in_X9 : ∀ w ∈ u_ws RX9 TX9 10, w ∈ wsA := List.forall_mem_cons.mpr ⟨wsA_1 149 rfl rfl, List.forall_mem_cons.mpr ⟨wsA_1 151 rfl rfl, List.forall_mem_cons.mpr ⟨wsA_1 153 rfl rfl, List.forall_mem_cons.mpr ⟨wsA_1 155 rfl rfl, List.forall_mem_cons.mpr ⟨wsA_1 157 rfl rfl, List.forall_mem_cons.mpr ⟨wsA_1 159 rfl rfl, List.forall_mem_cons.mpr ⟨wsA_1 161 rfl rfl, List.forall_mem_cons.mpr ⟨wsA_1 163 rfl rfl, List.forall_mem_cons.mpr ⟨wsA_1 165 rfl rfl, List.forall_mem_cons.mpr ⟨wsA_1 167 rfl rfl, fun _ h => absurd h List.not_mem_nil⟩⟩⟩⟩⟩⟩⟩⟩⟩⟩
set_option maxRecDepth 20000 in
theorem in_X10 : ∀ w ∈ u_ws RX10 TX10 5, w ∈ wsA := List.forall_mem_cons.mpr ⟨wsA_2 4 rfl rfl, List.forall_mem_cons.mpr ⟨wsA_2 6 rfl rfl, List.forall_mem_cons.mpr ⟨wsA_2 8 rfl rfl, List.forall_mem_cons.mpr ⟨wsA_2 10 rfl rfl, List.forall_mem_cons.mpr ⟨wsA_2 12 rfl rfl, fun _ h => absurd h List.not_mem_nil⟩⟩⟩⟩⟩
set_option maxRecDepth 20000 in
theorem in_X11 : ∀ w ∈ u_ws RX11 TX11 9, w ∈ wsA := List.forall_mem_cons.mpr ⟨wsA_3 172 rfl rfl, List.forall_mem_cons.mpr ⟨wsA_3 174 rfl rfl, List.forall_mem_cons.mpr ⟨wsA_3 176 rfl rfl, List.forall_mem_cons.mpr ⟨wsA_3 178 rfl rfl, List.forall_mem_cons.mpr ⟨wsA_3 180 rfl rfl, List.forall_mem_cons.mpr ⟨wsA_3 182 rfl rfl, List.forall_mem_cons.mpr ⟨wsA_3 184 rfl rfl, List.forall_mem_cons.mpr ⟨wsA_3 186 rfl rfl, List.forall_mem_cons.mpr ⟨wsA_3 188 rfl rfl, fun _ h => absurd h List.not_mem_nil⟩⟩⟩⟩⟩⟩⟩⟩⟩
set_option maxRecDepth 20000 in
theorem fp_X10_10 : kFP RX10 10 10 0 (.object "ChipBoards$Told") true := ⟨RX10, TX10, 5, tyX10, rfl, by decide, wsA_1 239 rfl rfl, in_X10, tyX10_ok, nmX10, rfl, tyX10_ok 0 (by decide), fun h => rfl⟩
set_option maxRecDepth 20000 in
theorem fp_X10_16 : kFP RX10 16 10 1 (.array (.object "ChipBoards$Told")) true := ⟨RX10, TX10, 5, tyX10, rfl, by decide, wsA_2 0 rfl rfl, in_X10, tyX10_ok, nmX10, rfl, tyX10_ok 1 (by decide), fun h => rfl⟩
set_option maxRecDepth 20000 in
theorem fp_X10_23 : kFP RX10 23 10 2 (.object "ChipBoards$Heating") true := ⟨RX10, TX10, 5, tyX10, rfl, by decide, wsA_2 1 rfl rfl, in_X10, tyX10_ok, nmX10, rfl, tyX10_ok 2 (by decide), fun h => rfl⟩
set_option maxRecDepth 20000 in
theorem fp_X10_30 : kFP RX10 30 10 3 (.object "ChipBoards$RowSearch") true := ⟨RX10, TX10, 5, tyX10, rfl, by decide, wsA_2 2 rfl rfl, in_X10, tyX10_ok, nmX10, rfl, tyX10_ok 3 (by decide), fun h => rfl⟩
set_option maxRecDepth 20000 in
theorem fp_X10_37 : kFP RX10 37 10 4 (.object "ChipBoards$CutTable") true := ⟨RX10, TX10, 5, tyX10, rfl, by decide, wsA_2 3 rfl rfl, in_X10, tyX10_ok, nmX10, rfl, tyX10_ok 4 (by decide), fun h => rfl⟩
set_option maxRecDepth 20000 in
theorem fl_X10_10 : kFL RX10 10 10 0 := ⟨RX10, TX10, 5, rfl, by decide, wsA_1 239 rfl rfl, in_X10⟩
set_option maxRecDepth 20000 in
theorem fl_X10_41 : kFL RX10 41 9 0 := ⟨RX9, TX9, 10, rfl, by decide, wsA_1 130 rfl rfl, in_X9⟩
set_option maxRecDepth 20000 in
theorem fl_X10_55 : kFL RX10 55 9 1 := ⟨RX9, TX9, 10, rfl, by decide, wsA_1 132 rfl rfl, in_X9⟩
set_option maxRecDepth 20000 in
theorem fl_X10_37 : kFL RX10 37 10 4 := ⟨RX10, TX10, 5, rfl, by decide, wsA_2 3 rfl rfl, in_X10⟩
set_option maxRecDepth 20000 in
theorem fl_X10_71 : kFL RX10 71 9 2 := ⟨RX9, TX9, 10, rfl, by decide, wsA_1 134 rfl rfl, in_X9⟩
set_option maxRecDepth 20000 in
theorem fl_X10_85 : kFL RX10 85 9 6 := ⟨RX9, TX9, 10, rfl, by decide, wsA_1 142 rfl rfl, in_X9⟩
set_option maxRecDepth 20000 in
theorem fl_X10_100 : kFL RX10 100 9 7 := ⟨RX9, TX9, 10, rfl, by decide, wsA_1 144 rfl rfl, in_X9⟩
set_option maxRecDepth 20000 in
theorem fl_X10_126 : kFL RX10 126 9 3 := ⟨RX9, TX9, 10, rfl, by decide, wsA_1 136 rfl rfl, in_X9⟩
set_option maxRecDepth 20000 in
theorem fl_X10_23 : kFL RX10 23 10 2 := ⟨RX10, TX10, 5, rfl, by decide, wsA_2 1 rfl rfl, in_X10⟩
set_option maxRecDepth 20000 in
theorem fl_X10_158 : kFL RX10 158 9 4 := ⟨RX9, TX9, 10, rfl, by decide, wsA_1 138 rfl rfl, in_X9⟩
set_option maxRecDepth 20000 in
theorem fl_X10_30 : kFL RX10 30 10 3 := ⟨RX10, TX10, 5, rfl, by decide, wsA_2 2 rfl rfl, in_X10⟩
set_option maxRecDepth 20000 in
theorem fl_X10_179 : kFL RX10 179 9 5 := ⟨RX9, TX9, 10, rfl, by decide, wsA_1 140 rfl rfl, in_X9⟩
set_option maxRecDepth 20000 in
theorem fl_X10_188 : kFL RX10 188 9 9 := ⟨RX9, TX9, 10, rfl, by decide, wsA_1 148 rfl rfl, in_X9⟩
set_option maxRecDepth 20000 in
theorem fl_X10_209 : kFL RX10 209 0 0 := ⟨RX0, TX0, 4, rfl, by decide, wsA_1 36 rfl rfl, in_X0⟩
set_option maxRecDepth 20000 in
theorem fl_X10_212 : kFL RX10 212 4 0 := ⟨RX4, TX4, 2, rfl, by decide, wsA_1 58 rfl rfl, in_X4⟩
set_option maxRecDepth 20000 in
theorem fl_X10_213 : kFL RX10 213 5 0 := ⟨RX5, TX5, 2, rfl, by decide, wsA_1 72 rfl rfl, in_X5⟩
set_option maxRecDepth 20000 in
theorem fl_X10_214 : kFL RX10 214 6 0 := ⟨RX6, TX6, 2, rfl, by decide, wsA_1 86 rfl rfl, in_X6⟩
set_option maxRecDepth 20000 in
theorem fl_X10_215 : kFL RX10 215 8 0 := ⟨RX8, TX8, 4, rfl, by decide, wsA_1 116 rfl rfl, in_X8⟩
set_option maxRecDepth 20000 in
theorem fl_X10_16 : kFL RX10 16 10 1 := ⟨RX10, TX10, 5, rfl, by decide, wsA_2 0 rfl rfl, in_X10⟩
set_option maxRecDepth 20000 in
theorem fl_X10_224 : kFL RX10 224 9 8 := ⟨RX9, TX9, 10, rfl, by decide, wsA_1 146 rfl rfl, in_X9⟩
set_option maxRecDepth 20000 in
theorem fp_X11_7 : kFP RX11 7 11 0 (.array .int) true := ⟨RX11, TX11, 9, tyX11, rfl, by decide, wsA_3 163 rfl rfl, in_X11, tyX11_ok, nmX11, rfl, tyX11_ok 0 (by decide), fun h => rfl⟩
set_option maxRecDepth 20000 in
theorem fp_X11_13 : kFP RX11 13 11 1 (.array .boolean) true := ⟨RX11, TX11, 9, tyX11, rfl, by decide, wsA_3 164 rfl rfl, in_X11, tyX11_ok, nmX11, rfl, tyX11_ok 1 (by decide), fun h => rfl⟩
set_option maxRecDepth 20000 in
theorem fp_X11_17 : kFP RX11 17 11 2 (.array .int) true := ⟨RX11, TX11, 9, tyX11, rfl, by decide, wsA_3 165 rfl rfl, in_X11, tyX11_ok, nmX11, rfl, tyX11_ok 2 (by decide), fun h => rfl⟩
set_option maxRecDepth 20000 in
theorem fp_X11_20 : kFP RX11 20 11 3 (.array .int) true := ⟨RX11, TX11, 9, tyX11, rfl, by decide, wsA_3 166 rfl rfl, in_X11, tyX11_ok, nmX11, rfl, tyX11_ok 3 (by decide), fun h => rfl⟩
set_option maxRecDepth 20000 in
theorem fp_X11_23 : kFP RX11 23 11 4 (.array .int) true := ⟨RX11, TX11, 9, tyX11, rfl, by decide, wsA_3 167 rfl rfl, in_X11, tyX11_ok, nmX11, rfl, tyX11_ok 4 (by decide), fun h => rfl⟩
set_option maxRecDepth 20000 in
theorem fp_X11_26 : kFP RX11 26 11 5 (.array .int) true := ⟨RX11, TX11, 9, tyX11, rfl, by decide, wsA_3 168 rfl rfl, in_X11, tyX11_ok, nmX11, rfl, tyX11_ok 5 (by decide), fun h => rfl⟩
set_option maxRecDepth 20000 in
theorem fp_X11_29 : kFP RX11 29 11 6 (.array .int) true := ⟨RX11, TX11, 9, tyX11, rfl, by decide, wsA_3 169 rfl rfl, in_X11, tyX11_ok, nmX11, rfl, tyX11_ok 6 (by decide), fun h => rfl⟩
set_option maxRecDepth 20000 in
theorem fp_X11_32 : kFP RX11 32 11 7 (.array .int) true := ⟨RX11, TX11, 9, tyX11, rfl, by decide, wsA_3 170 rfl rfl, in_X11, tyX11_ok, nmX11, rfl, tyX11_ok 7 (by decide), fun h => rfl⟩
set_option maxRecDepth 20000 in
theorem fp_X11_35 : kFP RX11 35 11 8 (.array .int) true := ⟨RX11, TX11, 9, tyX11, rfl, by decide, wsA_3 171 rfl rfl, in_X11, tyX11_ok, nmX11, rfl, tyX11_ok 8 (by decide), fun h => rfl⟩
set_option maxRecDepth 20000 in
theorem fl_X11_7 : kFL RX11 7 11 0 := ⟨RX11, TX11, 9, rfl, by decide, wsA_3 163 rfl rfl, in_X11⟩
set_option maxRecDepth 20000 in
theorem fl_X11_17 : kFL RX11 17 11 2 := ⟨RX11, TX11, 9, rfl, by decide, wsA_3 165 rfl rfl, in_X11⟩
set_option maxRecDepth 20000 in
theorem fl_X11_23 : kFL RX11 23 11 4 := ⟨RX11, TX11, 9, rfl, by decide, wsA_3 167 rfl rfl, in_X11⟩
set_option maxRecDepth 20000 in
theorem fl_X11_20 : kFL RX11 20 11 3 := ⟨RX11, TX11, 9, rfl, by decide, wsA_3 166 rfl rfl, in_X11⟩
set_option maxRecDepth 20000 in
theorem fl_X11_26 : kFL RX11 26 11 5 := ⟨RX11, TX11, 9, rfl, by decide, wsA_3 168 rfl rfl, in_X11⟩
set_option maxRecDepth 20000 in
theorem fl_X11_29 : kFL RX11 29 11 6 := ⟨RX11, TX11, 9, rfl, by decide, wsA_3 169 rfl rfl, in_X11⟩
set_option maxRecDepth 20000 in
theorem fl_X11_32 : kFL RX11 32 11 7 := ⟨RX11, TX11, 9, rfl, by decide, wsA_3 170 rfl rfl, in_X11⟩
set_option maxRecDepth 20000 in
theorem fl_X11_35 : kFL RX11 35 11 8 := ⟨RX11, TX11, 9, rfl, by decide, wsA_3 171 rfl rfl, in_X11⟩
set_option maxRecDepth 20000 in
theorem fl_X11_13 : kFL RX11 13 11 1 := ⟨RX11, TX11, 9, rfl, by decide, wsA_3 164 rfl rfl, in_X11⟩
set_option maxRecDepth 20000 in
theorem fp_X0_9 : kFP RX0 9 0 0 .int false := ⟨RX0, TX0, 4, tyX0, rfl, by decide, wsA_1 35 rfl rfl, in_X0, tyX0_ok, nmX0, rfl, tyX0_ok 0 (by decide), fun h => absurd h (by decide)⟩
set_option maxRecDepth 20000 in
theorem fp_X0_15 : kFP RX0 15 0 1 (.array .int) true := ⟨RX0, TX0, 4, tyX0, rfl, by decide, wsA_1 37 rfl rfl, in_X0, tyX0_ok, nmX0, rfl, tyX0_ok 1 (by decide), fun h => rfl⟩
set_option maxRecDepth 20000 in
theorem fp_X0_19 : kFP RX0 19 0 2 (.array .int) true := ⟨RX0, TX0, 4, tyX0, rfl, by decide, wsA_1 38 rfl rfl, in_X0, tyX0_ok, nmX0, rfl, tyX0_ok 2 (by decide), fun h => rfl⟩
set_option maxRecDepth 20000 in
theorem fp_X0_22 : kFP RX0 22 0 3 (.array .boolean) true := ⟨RX0, TX0, 4, tyX0, rfl, by decide, wsA_1 39 rfl rfl, in_X0, tyX0_ok, nmX0, rfl, tyX0_ok 3 (by decide), fun h => rfl⟩
set_option maxRecDepth 20000 in
theorem fl_X0_9 : kFL RX0 9 0 0 := ⟨RX0, TX0, 4, rfl, by decide, wsA_1 35 rfl rfl, in_X0⟩
set_option maxRecDepth 20000 in
theorem fl_X0_15 : kFL RX0 15 0 1 := ⟨RX0, TX0, 4, rfl, by decide, wsA_1 37 rfl rfl, in_X0⟩
set_option maxRecDepth 20000 in
theorem fl_X0_19 : kFL RX0 19 0 2 := ⟨RX0, TX0, 4, rfl, by decide, wsA_1 38 rfl rfl, in_X0⟩
set_option maxRecDepth 20000 in
theorem fl_X0_22 : kFL RX0 22 0 3 := ⟨RX0, TX0, 4, rfl, by decide, wsA_1 39 rfl rfl, in_X0⟩
set_option maxRecDepth 20000 in
theorem fp_X1_13 : kFP RX1 13 1 0 (.array .int) true := ⟨RX1, TX1, 6, tyX1, rfl, by decide, wsA_1 220 rfl rfl, in_X1, tyX1_ok, nmX1, rfl, tyX1_ok 0 (by decide), fun h => rfl⟩
set_option maxRecDepth 20000 in
theorem fp_X1_19 : kFP RX1 19 1 1 (.array (.array .int)) true := ⟨RX1, TX1, 6, tyX1, rfl, by decide, wsA_1 221 rfl rfl, in_X1, tyX1_ok, nmX1, rfl, tyX1_ok 1 (by decide), fun h => rfl⟩
set_option maxRecDepth 20000 in
theorem fp_X1_22 : kFP RX1 22 1 2 .boolean false := ⟨RX1, TX1, 6, tyX1, rfl, by decide, wsA_1 222 rfl rfl, in_X1, tyX1_ok, nmX1, rfl, tyX1_ok 2 (by decide), fun h => absurd h (by decide)⟩
set_option maxRecDepth 20000 in
theorem fp_X1_26 : kFP RX1 26 1 3 .int false := ⟨RX1, TX1, 6, tyX1, rfl, by decide, wsA_1 223 rfl rfl, in_X1, tyX1_ok, nmX1, rfl, tyX1_ok 3 (by decide), fun h => absurd h (by decide)⟩
set_option maxRecDepth 20000 in
theorem fp_X1_30 : kFP RX1 30 1 4 .int false := ⟨RX1, TX1, 6, tyX1, rfl, by decide, wsA_1 224 rfl rfl, in_X1, tyX1_ok, nmX1, rfl, tyX1_ok 4 (by decide), fun h => absurd h (by decide)⟩
set_option maxRecDepth 20000 in
theorem fp_X1_33 : kFP RX1 33 1 5 .int false := ⟨RX1, TX1, 6, tyX1, rfl, by decide, wsA_1 225 rfl rfl, in_X1, tyX1_ok, nmX1, rfl, tyX1_ok 5 (by decide), fun h => absurd h (by decide)⟩
set_option maxRecDepth 20000 in
theorem fl_X1_22 : kFL RX1 22 1 2 := ⟨RX1, TX1, 6, rfl, by decide, wsA_1 222 rfl rfl, in_X1⟩
set_option maxRecDepth 20000 in
theorem fl_X1_13 : kFL RX1 13 1 0 := ⟨RX1, TX1, 6, rfl, by decide, wsA_1 220 rfl rfl, in_X1⟩
set_option maxRecDepth 20000 in
theorem fl_X1_19 : kFL RX1 19 1 1 := ⟨RX1, TX1, 6, rfl, by decide, wsA_1 221 rfl rfl, in_X1⟩
set_option maxRecDepth 20000 in
theorem fl_X1_30 : kFL RX1 30 1 4 := ⟨RX1, TX1, 6, rfl, by decide, wsA_1 224 rfl rfl, in_X1⟩
set_option maxRecDepth 20000 in
theorem fl_X1_33 : kFL RX1 33 1 5 := ⟨RX1, TX1, 6, rfl, by decide, wsA_1 225 rfl rfl, in_X1⟩
set_option maxRecDepth 20000 in
theorem fl_X1_26 : kFL RX1 26 1 3 := ⟨RX1, TX1, 6, rfl, by decide, wsA_1 223 rfl rfl, in_X1⟩
set_option maxRecDepth 20000 in
theorem fp_X2_11 : kFP RX2 11 2 0 (.array .int) true := ⟨RX2, TX2, 3, tyX2, rfl, by decide, wsA_1 99 rfl rfl, in_X2, tyX2_ok, nmX2, rfl, tyX2_ok 0 (by decide), fun h => rfl⟩
set_option maxRecDepth 20000 in
theorem fp_X2_15 : kFP RX2 15 2 1 (.array .boolean) true := ⟨RX2, TX2, 3, tyX2, rfl, by decide, wsA_1 100 rfl rfl, in_X2, tyX2_ok, nmX2, rfl, tyX2_ok 1 (by decide), fun h => rfl⟩
set_option maxRecDepth 20000 in
theorem fp_X2_19 : kFP RX2 19 2 2 (.array .boolean) true := ⟨RX2, TX2, 3, tyX2, rfl, by decide, wsA_1 101 rfl rfl, in_X2, tyX2_ok, nmX2, rfl, tyX2_ok 2 (by decide), fun h => rfl⟩
set_option maxRecDepth 20000 in
theorem fl_X2_11 : kFL RX2 11 2 0 := ⟨RX2, TX2, 3, rfl, by decide, wsA_1 99 rfl rfl, in_X2⟩
set_option maxRecDepth 20000 in
theorem fl_X2_15 : kFL RX2 15 2 1 := ⟨RX2, TX2, 3, rfl, by decide, wsA_1 100 rfl rfl, in_X2⟩
set_option maxRecDepth 20000 in
theorem fl_X2_19 : kFL RX2 19 2 2 := ⟨RX2, TX2, 3, rfl, by decide, wsA_1 101 rfl rfl, in_X2⟩
set_option maxRecDepth 20000 in
theorem fp_X3_11 : kFP RX3 11 3 0 (.array .int) true := ⟨RX3, TX3, 3, tyX3, rfl, by decide, wsA_1 177 rfl rfl, in_X3, tyX3_ok, nmX3, rfl, tyX3_ok 0 (by decide), fun h => rfl⟩
set_option maxRecDepth 20000 in
theorem fp_X3_15 : kFP RX3 15 3 1 (.array .int) true := ⟨RX3, TX3, 3, tyX3, rfl, by decide, wsA_1 178 rfl rfl, in_X3, tyX3_ok, nmX3, rfl, tyX3_ok 1 (by decide), fun h => rfl⟩
set_option maxRecDepth 20000 in
theorem fp_X3_18 : kFP RX3 18 3 2 (.array .int) true := ⟨RX3, TX3, 3, tyX3, rfl, by decide, wsA_1 179 rfl rfl, in_X3, tyX3_ok, nmX3, rfl, tyX3_ok 2 (by decide), fun h => rfl⟩
set_option maxRecDepth 20000 in
theorem fl_X3_11 : kFL RX3 11 3 0 := ⟨RX3, TX3, 3, rfl, by decide, wsA_1 177 rfl rfl, in_X3⟩
set_option maxRecDepth 20000 in
theorem fl_X3_18 : kFL RX3 18 3 2 := ⟨RX3, TX3, 3, rfl, by decide, wsA_1 179 rfl rfl, in_X3⟩
set_option maxRecDepth 20000 in
theorem fl_X3_15 : kFL RX3 15 3 1 := ⟨RX3, TX3, 3, rfl, by decide, wsA_1 178 rfl rfl, in_X3⟩
set_option maxRecDepth 20000 in
theorem fp_X4_9 : kFP RX4 9 4 0 .int false := ⟨RX4, TX4, 2, tyX4, rfl, by decide, wsA_1 57 rfl rfl, in_X4, tyX4_ok, nmX4, rfl, tyX4_ok 0 (by decide), fun h => absurd h (by decide)⟩
set_option maxRecDepth 20000 in
theorem fp_X4_15 : kFP RX4 15 4 1 (.array .int) true := ⟨RX4, TX4, 2, tyX4, rfl, by decide, wsA_1 59 rfl rfl, in_X4, tyX4_ok, nmX4, rfl, tyX4_ok 1 (by decide), fun h => rfl⟩
set_option maxRecDepth 20000 in
theorem fl_X4_9 : kFL RX4 9 4 0 := ⟨RX4, TX4, 2, rfl, by decide, wsA_1 57 rfl rfl, in_X4⟩
set_option maxRecDepth 20000 in
theorem fl_X4_15 : kFL RX4 15 4 1 := ⟨RX4, TX4, 2, rfl, by decide, wsA_1 59 rfl rfl, in_X4⟩
set_option maxRecDepth 20000 in
theorem fp_X5_9 : kFP RX5 9 5 0 .int false := ⟨RX5, TX5, 2, tyX5, rfl, by decide, wsA_1 71 rfl rfl, in_X5, tyX5_ok, nmX5, rfl, tyX5_ok 0 (by decide), fun h => absurd h (by decide)⟩
set_option maxRecDepth 20000 in
theorem fp_X5_15 : kFP RX5 15 5 1 (.array .int) true := ⟨RX5, TX5, 2, tyX5, rfl, by decide, wsA_1 73 rfl rfl, in_X5, tyX5_ok, nmX5, rfl, tyX5_ok 1 (by decide), fun h => rfl⟩
set_option maxRecDepth 20000 in
theorem fl_X5_9 : kFL RX5 9 5 0 := ⟨RX5, TX5, 2, rfl, by decide, wsA_1 71 rfl rfl, in_X5⟩
set_option maxRecDepth 20000 in
theorem fl_X5_15 : kFL RX5 15 5 1 := ⟨RX5, TX5, 2, rfl, by decide, wsA_1 73 rfl rfl, in_X5⟩
set_option maxRecDepth 20000 in
theorem fp_X6_9 : kFP RX6 9 6 0 .int false := ⟨RX6, TX6, 2, tyX6, rfl, by decide, wsA_1 85 rfl rfl, in_X6, tyX6_ok, nmX6, rfl, tyX6_ok 0 (by decide), fun h => absurd h (by decide)⟩
set_option maxRecDepth 20000 in
theorem fp_X6_15 : kFP RX6 15 6 1 (.array .int) true := ⟨RX6, TX6, 2, tyX6, rfl, by decide, wsA_1 87 rfl rfl, in_X6, tyX6_ok, nmX6, rfl, tyX6_ok 1 (by decide), fun h => rfl⟩
set_option maxRecDepth 20000 in
theorem fl_X6_9 : kFL RX6 9 6 0 := ⟨RX6, TX6, 2, rfl, by decide, wsA_1 85 rfl rfl, in_X6⟩
set_option maxRecDepth 20000 in
theorem fl_X6_15 : kFL RX6 15 6 1 := ⟨RX6, TX6, 2, rfl, by decide, wsA_1 87 rfl rfl, in_X6⟩
set_option maxRecDepth 20000 in
theorem fp_X7_13 : kFP RX7 13 7 0 (.array .boolean) true := ⟨RX7, TX7, 6, tyX7, rfl, by decide, wsA_1 193 rfl rfl, in_X7, tyX7_ok, nmX7, rfl, tyX7_ok 0 (by decide), fun h => rfl⟩
set_option maxRecDepth 20000 in
theorem fp_X7_17 : kFP RX7 17 7 1 (.array .int) true := ⟨RX7, TX7, 6, tyX7, rfl, by decide, wsA_1 194 rfl rfl, in_X7, tyX7_ok, nmX7, rfl, tyX7_ok 1 (by decide), fun h => rfl⟩
set_option maxRecDepth 20000 in
theorem fp_X7_21 : kFP RX7 21 7 2 (.array .int) true := ⟨RX7, TX7, 6, tyX7, rfl, by decide, wsA_1 195 rfl rfl, in_X7, tyX7_ok, nmX7, rfl, tyX7_ok 2 (by decide), fun h => rfl⟩
set_option maxRecDepth 20000 in
theorem fp_X7_24 : kFP RX7 24 7 3 (.array .int) true := ⟨RX7, TX7, 6, tyX7, rfl, by decide, wsA_1 196 rfl rfl, in_X7, tyX7_ok, nmX7, rfl, tyX7_ok 3 (by decide), fun h => rfl⟩
set_option maxRecDepth 20000 in
theorem fp_X7_27 : kFP RX7 27 7 4 (.array .int) true := ⟨RX7, TX7, 6, tyX7, rfl, by decide, wsA_1 197 rfl rfl, in_X7, tyX7_ok, nmX7, rfl, tyX7_ok 4 (by decide), fun h => rfl⟩
set_option maxRecDepth 20000 in
theorem fp_X7_30 : kFP RX7 30 7 5 .int false := ⟨RX7, TX7, 6, tyX7, rfl, by decide, wsA_1 198 rfl rfl, in_X7, tyX7_ok, nmX7, rfl, tyX7_ok 5 (by decide), fun h => absurd h (by decide)⟩
set_option maxRecDepth 20000 in
theorem fl_X7_13 : kFL RX7 13 7 0 := ⟨RX7, TX7, 6, rfl, by decide, wsA_1 193 rfl rfl, in_X7⟩
set_option maxRecDepth 20000 in
theorem fl_X7_30 : kFL RX7 30 7 5 := ⟨RX7, TX7, 6, rfl, by decide, wsA_1 198 rfl rfl, in_X7⟩
set_option maxRecDepth 20000 in
theorem fl_X7_17 : kFL RX7 17 7 1 := ⟨RX7, TX7, 6, rfl, by decide, wsA_1 194 rfl rfl, in_X7⟩
set_option maxRecDepth 20000 in
theorem fl_X7_27 : kFL RX7 27 7 4 := ⟨RX7, TX7, 6, rfl, by decide, wsA_1 197 rfl rfl, in_X7⟩
set_option maxRecDepth 20000 in
theorem fl_X7_21 : kFL RX7 21 7 2 := ⟨RX7, TX7, 6, rfl, by decide, wsA_1 195 rfl rfl, in_X7⟩
set_option maxRecDepth 20000 in
theorem fl_X7_24 : kFL RX7 24 7 3 := ⟨RX7, TX7, 6, rfl, by decide, wsA_1 196 rfl rfl, in_X7⟩
set_option maxRecDepth 20000 in
theorem fp_X8_9 : kFP RX8 9 8 0 .int false := ⟨RX8, TX8, 4, tyX8, rfl, by decide, wsA_1 115 rfl rfl, in_X8, tyX8_ok, nmX8, rfl, tyX8_ok 0 (by decide), fun h => absurd h (by decide)⟩
set_option maxRecDepth 20000 in
theorem fp_X8_15 : kFP RX8 15 8 1 (.array .int) true := ⟨RX8, TX8, 4, tyX8, rfl, by decide, wsA_1 117 rfl rfl, in_X8, tyX8_ok, nmX8, rfl, tyX8_ok 1 (by decide), fun h => rfl⟩
set_option maxRecDepth 20000 in
theorem fp_X8_19 : kFP RX8 19 8 2 (.array .int) true := ⟨RX8, TX8, 4, tyX8, rfl, by decide, wsA_1 118 rfl rfl, in_X8, tyX8_ok, nmX8, rfl, tyX8_ok 2 (by decide), fun h => rfl⟩
set_option maxRecDepth 20000 in
theorem fp_X8_22 : kFP RX8 22 8 3 (.array .int) true := ⟨RX8, TX8, 4, tyX8, rfl, by decide, wsA_1 119 rfl rfl, in_X8, tyX8_ok, nmX8, rfl, tyX8_ok 3 (by decide), fun h => rfl⟩
set_option maxRecDepth 20000 in
theorem fl_X8_9 : kFL RX8 9 8 0 := ⟨RX8, TX8, 4, rfl, by decide, wsA_1 115 rfl rfl, in_X8⟩
set_option maxRecDepth 20000 in
theorem fl_X8_15 : kFL RX8 15 8 1 := ⟨RX8, TX8, 4, rfl, by decide, wsA_1 117 rfl rfl, in_X8⟩
set_option maxRecDepth 20000 in
theorem fl_X8_19 : kFL RX8 19 8 2 := ⟨RX8, TX8, 4, rfl, by decide, wsA_1 118 rfl rfl, in_X8⟩
set_option maxRecDepth 20000 in
theorem fl_X8_22 : kFL RX8 22 8 3 := ⟨RX8, TX8, 4, rfl, by decide, wsA_1 119 rfl rfl, in_X8⟩
set_option maxRecDepth 20000 in
theorem fp_X9_10 : kFP RX9 10 9 0 (.object "ChipBoards$Bins") true := ⟨RX9, TX9, 10, tyX9, rfl, by decide, wsA_1 129 rfl rfl, in_X9, tyX9_ok, nmX9, rfl, tyX9_ok 0 (by decide), fun h => rfl⟩
set_option maxRecDepth 20000 in
theorem fp_X9_19 : kFP RX9 19 9 1 (.object "ChipBoards$Lots") true := ⟨RX9, TX9, 10, tyX9, rfl, by decide, wsA_1 131 rfl rfl, in_X9, tyX9_ok, nmX9, rfl, tyX9_ok 1 (by decide), fun h => rfl⟩
set_option maxRecDepth 20000 in
theorem fp_X9_26 : kFP RX9 26 9 2 (.object "ChipBoards$Mats") true := ⟨RX9, TX9, 10, tyX9, rfl, by decide, wsA_1 133 rfl rfl, in_X9, tyX9_ok, nmX9, rfl, tyX9_ok 2 (by decide), fun h => rfl⟩
set_option maxRecDepth 20000 in
theorem fp_X9_33 : kFP RX9 33 9 3 (.object "ChipBoards$Plates") true := ⟨RX9, TX9, 10, tyX9, rfl, by decide, wsA_1 135 rfl rfl, in_X9, tyX9_ok, nmX9, rfl, tyX9_ok 3 (by decide), fun h => rfl⟩
set_option maxRecDepth 20000 in
theorem fp_X9_40 : kFP RX9 40 9 4 (.object "ChipBoards$Dryer") true := ⟨RX9, TX9, 10, tyX9, rfl, by decide, wsA_1 137 rfl rfl, in_X9, tyX9_ok, nmX9, rfl, tyX9_ok 4 (by decide), fun h => rfl⟩
set_option maxRecDepth 20000 in
theorem fp_X9_47 : kFP RX9 47 9 5 (.object "ChipBoards$Sheets") true := ⟨RX9, TX9, 10, tyX9, rfl, by decide, wsA_1 139 rfl rfl, in_X9, tyX9_ok, nmX9, rfl, tyX9_ok 5 (by decide), fun h => rfl⟩
set_option maxRecDepth 20000 in
theorem fp_X9_51 : kFP RX9 51 9 6 .int false := ⟨RX9, TX9, 10, tyX9, rfl, by decide, wsA_1 141 rfl rfl, in_X9, tyX9_ok, nmX9, rfl, tyX9_ok 6 (by decide), fun h => absurd h (by decide)⟩
set_option maxRecDepth 20000 in
theorem fp_X9_55 : kFP RX9 55 9 7 .int false := ⟨RX9, TX9, 10, tyX9, rfl, by decide, wsA_1 143 rfl rfl, in_X9, tyX9_ok, nmX9, rfl, tyX9_ok 7 (by decide), fun h => absurd h (by decide)⟩
set_option maxRecDepth 20000 in
theorem fp_X9_58 : kFP RX9 58 9 8 .int false := ⟨RX9, TX9, 10, tyX9, rfl, by decide, wsA_1 145 rfl rfl, in_X9, tyX9_ok, nmX9, rfl, tyX9_ok 8 (by decide), fun h => absurd h (by decide)⟩
set_option maxRecDepth 20000 in
theorem fp_X9_61 : kFP RX9 61 9 9 .int false := ⟨RX9, TX9, 10, tyX9, rfl, by decide, wsA_1 147 rfl rfl, in_X9, tyX9_ok, nmX9, rfl, tyX9_ok 9 (by decide), fun h => absurd h (by decide)⟩
set_option maxRecDepth 20000 in
theorem fl_X9_10 : kFL RX9 10 9 0 := ⟨RX9, TX9, 10, rfl, by decide, wsA_1 129 rfl rfl, in_X9⟩
set_option maxRecDepth 20000 in
theorem fl_X9_19 : kFL RX9 19 9 1 := ⟨RX9, TX9, 10, rfl, by decide, wsA_1 131 rfl rfl, in_X9⟩
set_option maxRecDepth 20000 in
theorem fl_X9_26 : kFL RX9 26 9 2 := ⟨RX9, TX9, 10, rfl, by decide, wsA_1 133 rfl rfl, in_X9⟩
set_option maxRecDepth 20000 in
theorem fl_X9_33 : kFL RX9 33 9 3 := ⟨RX9, TX9, 10, rfl, by decide, wsA_1 135 rfl rfl, in_X9⟩
set_option maxRecDepth 20000 in
theorem fl_X9_40 : kFL RX9 40 9 4 := ⟨RX9, TX9, 10, rfl, by decide, wsA_1 137 rfl rfl, in_X9⟩
set_option maxRecDepth 20000 in
theorem fl_X9_47 : kFL RX9 47 9 5 := ⟨RX9, TX9, 10, rfl, by decide, wsA_1 139 rfl rfl, in_X9⟩
set_option maxRecDepth 20000 in
theorem fl_X9_51 : kFL RX9 51 9 6 := ⟨RX9, TX9, 10, rfl, by decide, wsA_1 141 rfl rfl, in_X9⟩
set_option maxRecDepth 20000 in
theorem fl_X9_55 : kFL RX9 55 9 7 := ⟨RX9, TX9, 10, rfl, by decide, wsA_1 143 rfl rfl, in_X9⟩
set_option maxRecDepth 20000 in
theorem fl_X9_58 : kFL RX9 58 9 8 := ⟨RX9, TX9, 10, rfl, by decide, wsA_1 145 rfl rfl, in_X9⟩
set_option maxRecDepth 20000 in
theorem fl_X9_61 : kFL RX9 61 9 9 := ⟨RX9, TX9, 10, rfl, by decide, wsA_1 147 rfl rfl, in_X9⟩
set_option maxRecDepth 20000 in
theorem yi_10 : kYI yX10_init cX10_init 1 := ⟨wsA_1 19 rfl rfl, wsA_1 18 rfl rfl, wsA_1 1 rfl rfl, ⟨by decide +kernel, by decide +kernel, by decide +kernel⟩, by decide, rfl⟩
set_option maxRecDepth 20000 in
theorem yi_9 : kYI yX9_init cX9_init 1 := ⟨wsA_1 27 rfl rfl, wsA_1 26 rfl rfl, wsA_1 2 rfl rfl, ⟨by decide +kernel, by decide +kernel, by decide +kernel⟩, by decide, rfl⟩
set_option maxRecDepth 20000 in
theorem yi_0 : kYI yX0_init cX0_init 1 := ⟨wsA_1 33 rfl rfl, wsA_1 32 rfl rfl, wsA_1 3 rfl rfl, ⟨by decide +kernel, by decide +kernel, by decide +kernel⟩, by decide, rfl⟩
set_option maxRecDepth 20000 in
theorem yi_4 : kYI yX4_init cX4_init 1 := ⟨wsA_1 55 rfl rfl, wsA_1 54 rfl rfl, wsA_1 4 rfl rfl, ⟨by decide +kernel, by decide +kernel, by decide +kernel⟩, by decide, rfl⟩
set_option maxRecDepth 20000 in
theorem yi_5 : kYI yX5_init cX5_init 1 := ⟨wsA_1 69 rfl rfl, wsA_1 68 rfl rfl, wsA_1 5 rfl rfl, ⟨by decide +kernel, by decide +kernel, by decide +kernel⟩, by decide, rfl⟩
set_option maxRecDepth 20000 in
theorem yi_6 : kYI yX6_init cX6_init 1 := ⟨wsA_1 83 rfl rfl, wsA_1 82 rfl rfl, wsA_1 6 rfl rfl, ⟨by decide +kernel, by decide +kernel, by decide +kernel⟩, by decide, rfl⟩
set_option maxRecDepth 20000 in
theorem yi_2 : kYI yX2_init cX2_init 2 := ⟨wsA_1 97 rfl rfl, wsA_1 96 rfl rfl, wsA_1 7 rfl rfl, ⟨by decide +kernel, by decide +kernel, by decide +kernel⟩, by decide, rfl⟩
set_option maxRecDepth 20000 in
theorem yi_8 : kYI yX8_init cX8_init 1 := ⟨wsA_1 113 rfl rfl, wsA_1 112 rfl rfl, wsA_1 8 rfl rfl, ⟨by decide +kernel, by decide +kernel, by decide +kernel⟩, by decide, rfl⟩
set_option maxRecDepth 20000 in
theorem yi_3 : kYI yX3_init cX3_init 1 := ⟨wsA_1 175 rfl rfl, wsA_1 174 rfl rfl, wsA_1 9 rfl rfl, ⟨by decide +kernel, by decide +kernel, by decide +kernel⟩, by decide, rfl⟩
set_option maxRecDepth 20000 in
theorem yi_7 : kYI yX7_init cX7_init 1 := ⟨wsA_1 191 rfl rfl, wsA_1 190 rfl rfl, wsA_1 10 rfl rfl, ⟨by decide +kernel, by decide +kernel, by decide +kernel⟩, by decide, rfl⟩
set_option maxRecDepth 20000 in
theorem yi_1 : kYI yX1_init cX1_init 1 := ⟨wsA_1 216 rfl rfl, wsA_1 215 rfl rfl, wsA_1 11 rfl rfl, ⟨by decide +kernel, by decide +kernel, by decide +kernel⟩, by decide, rfl⟩
set_option maxRecDepth 20000 in
theorem yv_10_bin : kYV yX10_bin cX10_bin 3 (some .int) 10 2 := ⟨wsA_2 18 rfl rfl, wsA_2 16 rfl rfl, wsA_2 17 rfl rfl, wsA_1 1 rfl rfl, ⟨by decide +kernel, by decide +kernel, by decide +kernel⟩, by decide, TX10, 5, rfl⟩
set_option maxRecDepth 20000 in
theorem yv_0_add : kYV yX0_add cX0_add 3 (some .int) 0 2 := ⟨wsA_2 22 rfl rfl, wsA_2 20 rfl rfl, wsA_2 21 rfl rfl, wsA_1 3 rfl rfl, ⟨by decide +kernel, by decide +kernel, by decide +kernel⟩, by decide, TX0, 4, rfl⟩
set_option maxRecDepth 20000 in
theorem yv_10_fill : kYV yX10_fill cX10_fill 3 (some .int) 10 2 := ⟨wsA_2 26 rfl rfl, wsA_2 24 rfl rfl, wsA_2 25 rfl rfl, wsA_1 1 rfl rfl, ⟨by decide +kernel, by decide +kernel, by decide +kernel⟩, by decide, TX10, 5, rfl⟩
set_option maxRecDepth 20000 in
theorem yv_0_pour : kYV yX0_pour cX0_pour 3 (some .int) 0 2 := ⟨wsA_2 30 rfl rfl, wsA_2 28 rfl rfl, wsA_2 29 rfl rfl, wsA_1 3 rfl rfl, ⟨by decide +kernel, by decide +kernel, by decide +kernel⟩, by decide, TX0, 4, rfl⟩
set_option maxRecDepth 20000 in
theorem yv_0_has : kYV yX0_has cX0_has 2 (some .boolean) 0 1 := ⟨wsA_2 34 rfl rfl, wsA_2 32 rfl rfl, wsA_2 33 rfl rfl, wsA_1 3 rfl rfl, ⟨by decide +kernel, by decide +kernel, by decide +kernel⟩, by decide, TX0, 4, rfl⟩
set_option maxRecDepth 20000 in
theorem yv_10_lot : kYV yX10_lot cX10_lot 2 (some .int) 10 1 := ⟨wsA_2 39 rfl rfl, wsA_2 37 rfl rfl, wsA_2 38 rfl rfl, wsA_1 1 rfl rfl, ⟨by decide +kernel, by decide +kernel, by decide +kernel⟩, by decide, TX10, 5, rfl⟩
set_option maxRecDepth 20000 in
theorem yv_4_add : kYV yX4_add cX4_add 2 (some .int) 4 1 := ⟨wsA_2 43 rfl rfl, wsA_2 41 rfl rfl, wsA_2 42 rfl rfl, wsA_1 4 rfl rfl, ⟨by decide +kernel, by decide +kernel, by decide +kernel⟩, by decide, TX4, 2, rfl⟩
set_option maxRecDepth 20000 in
theorem yv_10_rule : kYV yX10_rule cX10_rule 4 (some .boolean) 10 2 := ⟨wsA_2 48 rfl rfl, wsA_2 46 rfl rfl, wsA_2 47 rfl rfl, wsA_1 1 rfl rfl, ⟨by decide +kernel, by decide +kernel, by decide +kernel⟩, by decide, TX10, 5, rfl⟩
set_option maxRecDepth 20000 in
theorem yv_9_setRule : kYV yX9_setRule cX9_setRule 3 (some .boolean) 9 2 := ⟨wsA_2 52 rfl rfl, wsA_2 50 rfl rfl, wsA_2 51 rfl rfl, wsA_1 2 rfl rfl, ⟨by decide +kernel, by decide +kernel, by decide +kernel⟩, by decide, TX9, 10, rfl⟩
set_option maxRecDepth 20000 in
theorem yv_1_forget : kYV yX1_forget cX1_forget 1 none 1 0 := ⟨wsA_2 56 rfl rfl, wsA_2 54 rfl rfl, wsA_2 55 rfl rfl, wsA_1 11 rfl rfl, ⟨by decide +kernel, by decide +kernel, by decide +kernel⟩, by decide, TX1, 6, rfl⟩
set_option maxRecDepth 20000 in
theorem yv_10_lay : kYV yX10_lay cX10_lay 11 (some .int) 10 3 := ⟨wsA_2 60 rfl rfl, wsA_2 58 rfl rfl, wsA_2 59 rfl rfl, wsA_1 1 rfl rfl, ⟨by decide +kernel, by decide +kernel, by decide +kernel⟩, by decide, TX10, 5, rfl⟩
set_option maxRecDepth 20000 in
theorem yv_5_isFull : kYV yX5_isFull cX5_isFull 1 (some .boolean) 5 0 := ⟨wsA_2 64 rfl rfl, wsA_2 62 rfl rfl, wsA_2 63 rfl rfl, wsA_1 5 rfl rfl, ⟨by decide +kernel, by decide +kernel, by decide +kernel⟩, by decide, TX5, 2, rfl⟩
set_option maxRecDepth 20000 in
theorem yv_0_usedPart : kYV yX0_usedPart cX0_usedPart 3 (some .int) 0 2 := ⟨wsA_2 69 rfl rfl, wsA_2 67 rfl rfl, wsA_2 68 rfl rfl, wsA_1 3 rfl rfl, ⟨by decide +kernel, by decide +kernel, by decide +kernel⟩, by decide, TX0, 4, rfl⟩
set_option maxRecDepth 20000 in
theorem yv_0_canGive : kYV yX0_canGive cX0_canGive 5 (some .boolean) 0 4 := ⟨wsA_2 73 rfl rfl, wsA_2 71 rfl rfl, wsA_2 72 rfl rfl, wsA_1 3 rfl rfl, ⟨by decide +kernel, by decide +kernel, by decide +kernel⟩, by decide, TX0, 4, rfl⟩
set_option maxRecDepth 20000 in
theorem yv_0_gramsOf : kYV yX0_gramsOf cX0_gramsOf 2 (some .int) 0 1 := ⟨wsA_2 77 rfl rfl, wsA_2 75 rfl rfl, wsA_2 76 rfl rfl, wsA_1 3 rfl rfl, ⟨by decide +kernel, by decide +kernel, by decide +kernel⟩, by decide, TX0, 4, rfl⟩
set_option maxRecDepth 20000 in
theorem yv_4_total : kYV yX4_total cX4_total 3 (some .int) 4 0 := ⟨wsA_2 81 rfl rfl, wsA_2 79 rfl rfl, wsA_2 80 rfl rfl, wsA_1 4 rfl rfl, ⟨by decide +kernel, by decide +kernel, by decide +kernel⟩, by decide, TX4, 2, rfl⟩
set_option maxRecDepth 20000 in
theorem yv_0_dampOf : kYV yX0_dampOf cX0_dampOf 2 (some .int) 0 1 := ⟨wsA_2 85 rfl rfl, wsA_2 83 rfl rfl, wsA_2 84 rfl rfl, wsA_1 3 rfl rfl, ⟨by decide +kernel, by decide +kernel, by decide +kernel⟩, by decide, TX0, 4, rfl⟩
set_option maxRecDepth 20000 in
theorem yv_0_give : kYV yX0_give cX0_give 3 none 0 2 := ⟨wsA_2 89 rfl rfl, wsA_2 87 rfl rfl, wsA_2 88 rfl rfl, wsA_1 3 rfl rfl, ⟨by decide +kernel, by decide +kernel, by decide +kernel⟩, by decide, TX0, 4, rfl⟩
set_option maxRecDepth 20000 in
theorem yv_5_add : kYV yX5_add cX5_add 1 (some .int) 5 0 := ⟨wsA_2 93 rfl rfl, wsA_2 91 rfl rfl, wsA_2 92 rfl rfl, wsA_1 5 rfl rfl, ⟨by decide +kernel, by decide +kernel, by decide +kernel⟩, by decide, TX5, 2, rfl⟩
set_option maxRecDepth 20000 in
theorem yv_5_put : kYV yX5_put cX5_put 4 none 5 3 := ⟨wsA_2 98 rfl rfl, wsA_2 96 rfl rfl, wsA_2 97 rfl rfl, wsA_1 5 rfl rfl, ⟨by decide +kernel, by decide +kernel, by decide +kernel⟩, by decide, TX5, 2, rfl⟩
set_option maxRecDepth 20000 in
theorem yv_5_has : kYV yX5_has cX5_has 2 (some .boolean) 5 1 := ⟨wsA_2 102 rfl rfl, wsA_2 100 rfl rfl, wsA_2 101 rfl rfl, wsA_1 5 rfl rfl, ⟨by decide +kernel, by decide +kernel, by decide +kernel⟩, by decide, TX5, 2, rfl⟩
set_option maxRecDepth 20000 in
theorem yv_4_draw : kYV yX4_draw cX4_draw 6 (some .int) 4 1 := ⟨wsA_2 106 rfl rfl, wsA_2 104 rfl rfl, wsA_2 105 rfl rfl, wsA_1 4 rfl rfl, ⟨by decide +kernel, by decide +kernel, by decide +kernel⟩, by decide, TX4, 2, rfl⟩
set_option maxRecDepth 20000 in
theorem yv_10_mat : kYV yX10_mat cX10_mat 3 (some .int) 10 2 := ⟨wsA_2 113 rfl rfl, wsA_2 111 rfl rfl, wsA_2 112 rfl rfl, wsA_1 1 rfl rfl, ⟨by decide +kernel, by decide +kernel, by decide +kernel⟩, by decide, TX10, 5, rfl⟩
set_option maxRecDepth 20000 in
theorem yv_5_get : kYV yX5_get cX5_get 3 (some .int) 5 2 := ⟨wsA_2 117 rfl rfl, wsA_2 115 rfl rfl, wsA_2 116 rfl rfl, wsA_1 5 rfl rfl, ⟨by decide +kernel, by decide +kernel, by decide +kernel⟩, by decide, TX5, 2, rfl⟩
set_option maxRecDepth 20000 in
theorem yv_10_recall : kYV yX10_recall cX10_recall 2 (some .int) 10 1 := ⟨wsA_2 121 rfl rfl, wsA_2 119 rfl rfl, wsA_2 120 rfl rfl, wsA_1 1 rfl rfl, ⟨by decide +kernel, by decide +kernel, by decide +kernel⟩, by decide, TX10, 5, rfl⟩
set_option maxRecDepth 20000 in
theorem yv_4_has : kYV yX4_has cX4_has 2 (some .boolean) 4 1 := ⟨wsA_2 125 rfl rfl, wsA_2 123 rfl rfl, wsA_2 124 rfl rfl, wsA_1 4 rfl rfl, ⟨by decide +kernel, by decide +kernel, by decide +kernel⟩, by decide, TX4, 2, rfl⟩
set_option maxRecDepth 20000 in
theorem yv_5_withLot : kYV yX5_withLot cX5_withLot 4 (some .int) 5 1 := ⟨wsA_2 129 rfl rfl, wsA_2 127 rfl rfl, wsA_2 128 rfl rfl, wsA_1 5 rfl rfl, ⟨by decide +kernel, by decide +kernel, by decide +kernel⟩, by decide, TX5, 2, rfl⟩
set_option maxRecDepth 20000 in
theorem yv_10_plate : kYV yX10_plate cX10_plate 2 (some .int) 10 1 := ⟨wsA_2 134 rfl rfl, wsA_2 132 rfl rfl, wsA_2 133 rfl rfl, wsA_1 1 rfl rfl, ⟨by decide +kernel, by decide +kernel, by decide +kernel⟩, by decide, TX10, 5, rfl⟩
set_option maxRecDepth 20000 in
theorem yv_6_add : kYV yX6_add cX6_add 2 (some .int) 6 1 := ⟨wsA_2 138 rfl rfl, wsA_2 136 rfl rfl, wsA_2 137 rfl rfl, wsA_1 6 rfl rfl, ⟨by decide +kernel, by decide +kernel, by decide +kernel⟩, by decide, TX6, 2, rfl⟩
set_option maxRecDepth 20000 in
theorem yv_10_time : kYV yX10_time cX10_time 3 (some .int) 10 2 := ⟨wsA_2 142 rfl rfl, wsA_2 140 rfl rfl, wsA_2 141 rfl rfl, wsA_1 1 rfl rfl, ⟨by decide +kernel, by decide +kernel, by decide +kernel⟩, by decide, TX10, 5, rfl⟩
set_option maxRecDepth 20000 in
theorem yv_10_timeOf : kYV yX10_timeOf cX10_timeOf 5 (some .int) 10 2 := ⟨wsA_2 146 rfl rfl, wsA_2 145 rfl rfl, wsA_p 0 (n := 5) rfl rfl, wsA_1 1 rfl rfl, ⟨by decide +kernel, by decide +kernel, by decide +kernel⟩, by decide, TX10, 5, rfl⟩
set_option maxRecDepth 20000 in
theorem yv_6_has : kYV yX6_has cX6_has 2 (some .boolean) 6 1 := ⟨wsA_2 151 rfl rfl, wsA_2 149 rfl rfl, wsA_2 150 rfl rfl, wsA_1 6 rfl rfl, ⟨by decide +kernel, by decide +kernel, by decide +kernel⟩, by decide, TX6, 2, rfl⟩
set_option maxRecDepth 20000 in
theorem yv_6_heatOf : kYV yX6_heatOf cX6_heatOf 2 (some .int) 6 1 := ⟨wsA_2 155 rfl rfl, wsA_2 153 rfl rfl, wsA_2 154 rfl rfl, wsA_1 6 rfl rfl, ⟨by decide +kernel, by decide +kernel, by decide +kernel⟩, by decide, TX6, 2, rfl⟩
set_option maxRecDepth 20000 in
theorem yv_3_begin : kYV yX3_begin cX3_begin 3 none 3 1 := ⟨wsA_2 160 rfl rfl, wsA_2 158 rfl rfl, wsA_2 159 rfl rfl, wsA_1 9 rfl rfl, ⟨by decide +kernel, by decide +kernel, by decide +kernel⟩, by decide, TX3, 3, rfl⟩
set_option maxRecDepth 20000 in
theorem yv_3_tick : kYV yX3_tick cX3_tick 4 none 3 0 := ⟨wsA_2 164 rfl rfl, wsA_2 162 rfl rfl, wsA_2 163 rfl rfl, wsA_1 9 rfl rfl, ⟨by decide +kernel, by decide +kernel, by decide +kernel⟩, by decide, TX3, 3, rfl⟩
set_option maxRecDepth 20000 in
theorem yv_3_mayOpen : kYV yX3_mayOpen cX3_mayOpen 4 (some .boolean) 3 2 := ⟨wsA_2 171 rfl rfl, wsA_2 169 rfl rfl, wsA_2 170 rfl rfl, wsA_1 9 rfl rfl, ⟨by decide +kernel, by decide +kernel, by decide +kernel⟩, by decide, TX3, 3, rfl⟩
set_option maxRecDepth 20000 in
theorem yv_3_steamOf : kYV yX3_steamOf cX3_steamOf 4 (some .int) 3 2 := ⟨wsA_2 175 rfl rfl, wsA_2 173 rfl rfl, wsA_2 174 rfl rfl, wsA_1 9 rfl rfl, ⟨by decide +kernel, by decide +kernel, by decide +kernel⟩, by decide, TX3, 3, rfl⟩
set_option maxRecDepth 20000 in
theorem yv_10_fastest : kYV yX10_fastest cX10_fastest 6 (some .int) 10 1 := ⟨wsA_2 179 rfl rfl, wsA_2 177 rfl rfl, wsA_2 178 rfl rfl, wsA_1 1 rfl rfl, ⟨by decide +kernel, by decide +kernel, by decide +kernel⟩, by decide, TX10, 5, rfl⟩
set_option maxRecDepth 20000 in
theorem yv_10_press : kYV yX10_press cX10_press 4 (some .boolean) 10 2 := ⟨wsA_2 183 rfl rfl, wsA_2 181 rfl rfl, wsA_2 182 rfl rfl, wsA_1 1 rfl rfl, ⟨by decide +kernel, by decide +kernel, by decide +kernel⟩, by decide, TX10, 5, rfl⟩
set_option maxRecDepth 20000 in
theorem yv_5_isPressed : kYV yX5_isPressed cX5_isPressed 2 (some .boolean) 5 1 := ⟨wsA_2 187 rfl rfl, wsA_2 185 rfl rfl, wsA_2 186 rfl rfl, wsA_1 5 rfl rfl, ⟨by decide +kernel, by decide +kernel, by decide +kernel⟩, by decide, TX5, 2, rfl⟩
set_option maxRecDepth 20000 in
theorem yv_10_shell : kYV yX10_shell cX10_shell 7 (some .int) 10 5 := ⟨wsA_2 191 rfl rfl, wsA_2 189 rfl rfl, wsA_2 190 rfl rfl, wsA_1 1 rfl rfl, ⟨by decide +kernel, by decide +kernel, by decide +kernel⟩, by decide, TX10, 5, rfl⟩
set_option maxRecDepth 20000 in
theorem yv_3_heatOf : kYV yX3_heatOf cX3_heatOf 2 (some .int) 3 1 := ⟨wsA_2 195 rfl rfl, wsA_2 193 rfl rfl, wsA_2 194 rfl rfl, wsA_1 9 rfl rfl, ⟨by decide +kernel, by decide +kernel, by decide +kernel⟩, by decide, TX3, 3, rfl⟩
set_option maxRecDepth 20000 in
theorem yv_3_cureOf : kYV yX3_cureOf cX3_cureOf 2 (some .int) 3 1 := ⟨wsA_2 199 rfl rfl, wsA_2 197 rfl rfl, wsA_2 198 rfl rfl, wsA_1 9 rfl rfl, ⟨by decide +kernel, by decide +kernel, by decide +kernel⟩, by decide, TX3, 3, rfl⟩
set_option maxRecDepth 20000 in
theorem yv_10_link : kYV yX10_link cX10_link 4 (some .boolean) 10 3 := ⟨wsA_2 204 rfl rfl, wsA_2 202 rfl rfl, wsA_2 203 rfl rfl, wsA_1 1 rfl rfl, ⟨by decide +kernel, by decide +kernel, by decide +kernel⟩, by decide, TX10, 5, rfl⟩
set_option maxRecDepth 20000 in
theorem yv_2_lead : kYV yX2_lead cX2_lead 4 (some .boolean) 2 3 := ⟨wsA_2 208 rfl rfl, wsA_2 206 rfl rfl, wsA_2 207 rfl rfl, wsA_1 7 rfl rfl, ⟨by decide +kernel, by decide +kernel, by decide +kernel⟩, by decide, TX2, 3, rfl⟩
set_option maxRecDepth 20000 in
theorem ys_2_isState : kYS yX2_isState cX2_isState 1 (some .boolean) 1 := ⟨wsA_2 211 rfl rfl, wsA_2 210 rfl rfl, wsA_1 7 rfl rfl, ⟨by decide +kernel, by decide +kernel, by decide +kernel⟩, by decide⟩
set_option maxRecDepth 20000 in
theorem ys_2_isEvent : kYS yX2_isEvent cX2_isEvent 1 (some .boolean) 1 := ⟨wsA_2 214 rfl rfl, wsA_2 213 rfl rfl, wsA_1 7 rfl rfl, ⟨by decide +kernel, by decide +kernel, by decide +kernel⟩, by decide⟩
set_option maxRecDepth 20000 in
theorem yv_10_state : kYV yX10_state cX10_state 4 (some .boolean) 10 3 := ⟨wsA_2 218 rfl rfl, wsA_2 216 rfl rfl, wsA_2 217 rfl rfl, wsA_1 1 rfl rfl, ⟨by decide +kernel, by decide +kernel, by decide +kernel⟩, by decide, TX10, 5, rfl⟩
set_option maxRecDepth 20000 in
theorem yv_2_equip : kYV yX2_equip cX2_equip 4 (some .boolean) 2 3 := ⟨wsA_2 222 rfl rfl, wsA_2 220 rfl rfl, wsA_2 221 rfl rfl, wsA_1 7 rfl rfl, ⟨by decide +kernel, by decide +kernel, by decide +kernel⟩, by decide, TX2, 3, rfl⟩
set_option maxRecDepth 20000 in
theorem yv_10_badRow : kYV yX10_badRow cX10_badRow 1 (some .int) 10 0 := ⟨wsA_2 226 rfl rfl, wsA_2 224 rfl rfl, wsA_2 225 rfl rfl, wsA_1 1 rfl rfl, ⟨by decide +kernel, by decide +kernel, by decide +kernel⟩, by decide, TX10, 5, rfl⟩
set_option maxRecDepth 20000 in
theorem yv_7_find : kYV yX7_find cX7_find 9 (some .int) 7 1 := ⟨wsA_2 230 rfl rfl, wsA_2 228 rfl rfl, wsA_2 229 rfl rfl, wsA_1 10 rfl rfl, ⟨by decide +kernel, by decide +kernel, by decide +kernel⟩, by decide, TX7, 6, rfl⟩
set_option maxRecDepth 20000 in
theorem yv_7_reach : kYV yX7_reach cX7_reach 4 (some .boolean) 7 3 := ⟨wsA_2 234 rfl rfl, wsA_2 233 rfl rfl, wsA_p 1 (n := 6) rfl rfl, wsA_1 10 rfl rfl, ⟨by decide +kernel, by decide +kernel, by decide +kernel⟩, by decide, TX7, 6, rfl⟩
set_option maxRecDepth 20000 in
theorem yv_2_after : kYV yX2_after cX2_after 3 (some .int) 2 2 := ⟨wsA_2 238 rfl rfl, wsA_2 236 rfl rfl, wsA_2 237 rfl rfl, wsA_1 7 rfl rfl, ⟨by decide +kernel, by decide +kernel, by decide +kernel⟩, by decide, TX2, 3, rfl⟩
set_option maxRecDepth 20000 in
theorem yv_2_waters : kYV yX2_waters cX2_waters 2 (some .boolean) 2 1 := ⟨wsA_3 2 rfl rfl, wsA_3 0 rfl rfl, wsA_3 1 rfl rfl, wsA_1 7 rfl rfl, ⟨by decide +kernel, by decide +kernel, by decide +kernel⟩, by decide, TX2, 3, rfl⟩
set_option maxRecDepth 20000 in
theorem ys_7_dangerAfter : kYS yX7_dangerAfter cX7_dangerAfter 3 (some .int) 3 := ⟨wsA_3 5 rfl rfl, wsA_3 4 rfl rfl, wsA_1 10 rfl rfl, ⟨by decide +kernel, by decide +kernel, by decide +kernel⟩, by decide⟩
set_option maxRecDepth 20000 in
theorem yv_2_feeds : kYV yX2_feeds cX2_feeds 2 (some .boolean) 2 1 := ⟨wsA_3 12 rfl rfl, wsA_3 10 rfl rfl, wsA_3 11 rfl rfl, wsA_1 7 rfl rfl, ⟨by decide +kernel, by decide +kernel, by decide +kernel⟩, by decide, TX2, 3, rfl⟩
set_option maxRecDepth 20000 in
theorem yv_7_writeRow : kYV yX7_writeRow cX7_writeRow 5 (some .int) 7 1 := ⟨wsA_3 16 rfl rfl, wsA_3 15 rfl rfl, wsA_p 2 (n := 6) rfl rfl, wsA_1 10 rfl rfl, ⟨by decide +kernel, by decide +kernel, by decide +kernel⟩, by decide, TX7, 6, rfl⟩
set_option maxRecDepth 20000 in
theorem yv_10_bad : kYV yX10_bad cX10_bad 3 (some .int) 10 1 := ⟨wsA_3 20 rfl rfl, wsA_3 18 rfl rfl, wsA_3 19 rfl rfl, wsA_1 1 rfl rfl, ⟨by decide +kernel, by decide +kernel, by decide +kernel⟩, by decide, TX10, 5, rfl⟩
set_option maxRecDepth 20000 in
theorem yv_7_eventAt : kYV yX7_eventAt cX7_eventAt 2 (some .int) 7 1 := ⟨wsA_3 24 rfl rfl, wsA_3 22 rfl rfl, wsA_3 23 rfl rfl, wsA_1 10 rfl rfl, ⟨by decide +kernel, by decide +kernel, by decide +kernel⟩, by decide, TX7, 6, rfl⟩
set_option maxRecDepth 20000 in
theorem yv_10_sheet : kYV yX10_sheet cX10_sheet 5 (some .int) 10 3 := ⟨wsA_3 28 rfl rfl, wsA_3 26 rfl rfl, wsA_3 27 rfl rfl, wsA_1 1 rfl rfl, ⟨by decide +kernel, by decide +kernel, by decide +kernel⟩, by decide, TX10, 5, rfl⟩
set_option maxRecDepth 20000 in
theorem yv_8_add : kYV yX8_add cX8_add 4 (some .int) 8 3 := ⟨wsA_3 32 rfl rfl, wsA_3 30 rfl rfl, wsA_3 31 rfl rfl, wsA_1 8 rfl rfl, ⟨by decide +kernel, by decide +kernel, by decide +kernel⟩, by decide, TX8, 4, rfl⟩
set_option maxRecDepth 20000 in
theorem ys_8_hasSides : kYS yX8_hasSides cX8_hasSides 2 (some .boolean) 2 := ⟨wsA_3 35 rfl rfl, wsA_3 34 rfl rfl, wsA_1 8 rfl rfl, ⟨by decide +kernel, by decide +kernel, by decide +kernel⟩, by decide⟩
set_option maxRecDepth 20000 in
theorem yv_10_best : kYV yX10_best cX10_best 3 (some .int) 10 2 := ⟨wsA_3 39 rfl rfl, wsA_3 37 rfl rfl, wsA_3 38 rfl rfl, wsA_1 1 rfl rfl, ⟨by decide +kernel, by decide +kernel, by decide +kernel⟩, by decide, TX10, 5, rfl⟩
set_option maxRecDepth 20000 in
theorem yv_1_prepare : kYV yX1_prepare cX1_prepare 5 none 1 2 := ⟨wsA_3 43 rfl rfl, wsA_3 41 rfl rfl, wsA_3 42 rfl rfl, wsA_1 11 rfl rfl, ⟨by decide +kernel, by decide +kernel, by decide +kernel⟩, by decide, TX1, 6, rfl⟩
set_option maxRecDepth 20000 in
theorem yv_1_choose : kYV yX1_choose cX1_choose 7 none 1 4 := ⟨wsA_3 47 rfl rfl, wsA_3 46 rfl rfl, wsA_p 3 (n := 6) rfl rfl, wsA_1 11 rfl rfl, ⟨by decide +kernel, by decide +kernel, by decide +kernel⟩, by decide, TX1, 6, rfl⟩
set_option maxRecDepth 20000 in
theorem yv_8_dearestIn : kYV yX8_dearestIn cX8_dearestIn 5 (some .int) 8 2 := ⟨wsA_3 51 rfl rfl, wsA_3 49 rfl rfl, wsA_3 50 rfl rfl, wsA_1 8 rfl rfl, ⟨by decide +kernel, by decide +kernel, by decide +kernel⟩, by decide, TX8, 4, rfl⟩
set_option maxRecDepth 20000 in
theorem yv_8_worthOf : kYV yX8_worthOf cX8_worthOf 2 (some .int) 8 1 := ⟨wsA_3 55 rfl rfl, wsA_3 53 rfl rfl, wsA_3 54 rfl rfl, wsA_1 8 rfl rfl, ⟨by decide +kernel, by decide +kernel, by decide +kernel⟩, by decide, TX8, 4, rfl⟩
set_option maxRecDepth 20000 in
theorem yv_8_has : kYV yX8_has cX8_has 2 (some .boolean) 8 1 := ⟨wsA_3 59 rfl rfl, wsA_3 57 rfl rfl, wsA_3 58 rfl rfl, wsA_1 8 rfl rfl, ⟨by decide +kernel, by decide +kernel, by decide +kernel⟩, by decide, TX8, 4, rfl⟩
set_option maxRecDepth 20000 in
theorem ys_1_place : kYS yX1_place cX1_place 2 (some .int) 2 := ⟨wsA_3 63 rfl rfl, wsA_3 62 rfl rfl, wsA_1 11 rfl rfl, ⟨by decide +kernel, by decide +kernel, by decide +kernel⟩, by decide⟩
set_option maxRecDepth 20000 in
theorem yv_1_tryCut : kYV yX1_tryCut cX1_tryCut 4 none 1 2 := ⟨wsA_3 67 rfl rfl, wsA_3 66 rfl rfl, wsA_p 4 (n := 6) rfl rfl, wsA_1 11 rfl rfl, ⟨by decide +kernel, by decide +kernel, by decide +kernel⟩, by decide, TX1, 6, rfl⟩
set_option maxRecDepth 20000 in
theorem ys_1_isPlace : kYS yX1_isPlace cX1_isPlace 1 (some .boolean) 1 := ⟨wsA_3 70 rfl rfl, wsA_3 69 rfl rfl, wsA_1 11 rfl rfl, ⟨by decide +kernel, by decide +kernel, by decide +kernel⟩, by decide⟩
set_option maxRecDepth 20000 in
theorem yv_1_writeCut : kYV yX1_writeCut cX1_writeCut 3 none 1 1 := ⟨wsA_3 74 rfl rfl, wsA_3 73 rfl rfl, wsA_p 5 (n := 6) rfl rfl, wsA_1 11 rfl rfl, ⟨by decide +kernel, by decide +kernel, by decide +kernel⟩, by decide, TX1, 6, rfl⟩
set_option maxRecDepth 20000 in
theorem yv_1_writeWhole : kYV yX1_writeWhole cX1_writeWhole 4 none 1 2 := ⟨wsA_3 78 rfl rfl, wsA_3 77 rfl rfl, wsA_p 6 (n := 6) rfl rfl, wsA_1 11 rfl rfl, ⟨by decide +kernel, by decide +kernel, by decide +kernel⟩, by decide, TX1, 6, rfl⟩
set_option maxRecDepth 20000 in
theorem yv_1_worthOf : kYV yX1_worthOf cX1_worthOf 3 (some .int) 1 2 := ⟨wsA_3 82 rfl rfl, wsA_3 80 rfl rfl, wsA_3 81 rfl rfl, wsA_1 11 rfl rfl, ⟨by decide +kernel, by decide +kernel, by decide +kernel⟩, by decide, TX1, 6, rfl⟩
set_option maxRecDepth 20000 in
theorem yv_10_cuts : kYV yX10_cuts cX10_cuts 4 (some .int) 10 3 := ⟨wsA_3 87 rfl rfl, wsA_3 85 rfl rfl, wsA_3 86 rfl rfl, wsA_1 1 rfl rfl, ⟨by decide +kernel, by decide +kernel, by decide +kernel⟩, by decide, TX10, 5, rfl⟩
set_option maxRecDepth 20000 in
theorem yv_1_cutsOf : kYV yX1_cutsOf cX1_cutsOf 3 (some .int) 1 2 := ⟨wsA_3 91 rfl rfl, wsA_3 89 rfl rfl, wsA_3 90 rfl rfl, wsA_1 11 rfl rfl, ⟨by decide +kernel, by decide +kernel, by decide +kernel⟩, by decide, TX1, 6, rfl⟩
set_option maxRecDepth 20000 in
theorem yv_1_sheetsOf : kYV yX1_sheetsOf cX1_sheetsOf 5 (some .int) 1 3 := ⟨wsA_3 96 rfl rfl, wsA_3 94 rfl rfl, wsA_3 95 rfl rfl, wsA_1 11 rfl rfl, ⟨by decide +kernel, by decide +kernel, by decide +kernel⟩, by decide, TX1, 6, rfl⟩
set_option maxRecDepth 20000 in
theorem yv_10_count : kYV yX10_count cX10_count 2 (some .int) 10 1 := ⟨wsA_3 100 rfl rfl, wsA_3 98 rfl rfl, wsA_3 99 rfl rfl, wsA_1 1 rfl rfl, ⟨by decide +kernel, by decide +kernel, by decide +kernel⟩, by decide, TX10, 5, rfl⟩
set_option maxRecDepth 20000 in
theorem yv_4_gramsOf : kYV yX4_gramsOf cX4_gramsOf 2 (some .int) 4 1 := ⟨wsA_3 105 rfl rfl, wsA_3 103 rfl rfl, wsA_3 104 rfl rfl, wsA_1 4 rfl rfl, ⟨by decide +kernel, by decide +kernel, by decide +kernel⟩, by decide, TX4, 2, rfl⟩
set_option maxRecDepth 20000 in
theorem yv_0_total : kYV yX0_total cX0_total 3 (some .int) 0 0 := ⟨wsA_3 110 rfl rfl, wsA_3 108 rfl rfl, wsA_3 109 rfl rfl, wsA_1 3 rfl rfl, ⟨by decide +kernel, by decide +kernel, by decide +kernel⟩, by decide, TX0, 4, rfl⟩
set_option maxRecDepth 20000 in
theorem yv_5_pressed : kYV yX5_pressed cX5_pressed 3 (some .int) 5 0 := ⟨wsA_3 114 rfl rfl, wsA_3 112 rfl rfl, wsA_3 113 rfl rfl, wsA_1 5 rfl rfl, ⟨by decide +kernel, by decide +kernel, by decide +kernel⟩, by decide, TX5, 2, rfl⟩
set_option maxRecDepth 20000 in
theorem yv_10_image : kYV yX10_image cX10_image 3 (some .boolean) 10 1 := ⟨wsA_3 119 rfl rfl, wsA_3 117 rfl rfl, wsA_3 118 rfl rfl, wsA_1 1 rfl rfl, ⟨by decide +kernel, by decide +kernel, by decide +kernel⟩, by decide, TX10, 5, rfl⟩
set_option maxRecDepth 20000 in
theorem yv_9_copyFrom : kYV yX9_copyFrom cX9_copyFrom 2 none 9 1 := ⟨wsA_3 123 rfl rfl, wsA_3 121 rfl rfl, wsA_3 122 rfl rfl, wsA_1 2 rfl rfl, ⟨by decide +kernel, by decide +kernel, by decide +kernel⟩, by decide, TX9, 10, rfl⟩
set_option maxRecDepth 20000 in
theorem yv_0_copyFrom : kYV yX0_copyFrom cX0_copyFrom 3 none 0 1 := ⟨wsA_3 127 rfl rfl, wsA_3 125 rfl rfl, wsA_3 126 rfl rfl, wsA_1 3 rfl rfl, ⟨by decide +kernel, by decide +kernel, by decide +kernel⟩, by decide, TX0, 4, rfl⟩
set_option maxRecDepth 20000 in
theorem yv_4_copyFrom : kYV yX4_copyFrom cX4_copyFrom 2 none 4 1 := ⟨wsA_3 131 rfl rfl, wsA_3 129 rfl rfl, wsA_3 130 rfl rfl, wsA_1 4 rfl rfl, ⟨by decide +kernel, by decide +kernel, by decide +kernel⟩, by decide, TX4, 2, rfl⟩
set_option maxRecDepth 20000 in
theorem yv_5_copyFrom : kYV yX5_copyFrom cX5_copyFrom 2 none 5 1 := ⟨wsA_3 136 rfl rfl, wsA_3 134 rfl rfl, wsA_3 135 rfl rfl, wsA_1 5 rfl rfl, ⟨by decide +kernel, by decide +kernel, by decide +kernel⟩, by decide, TX5, 2, rfl⟩
set_option maxRecDepth 20000 in
theorem yv_6_copyFrom : kYV yX6_copyFrom cX6_copyFrom 2 none 6 1 := ⟨wsA_3 141 rfl rfl, wsA_3 139 rfl rfl, wsA_3 140 rfl rfl, wsA_1 6 rfl rfl, ⟨by decide +kernel, by decide +kernel, by decide +kernel⟩, by decide, TX6, 2, rfl⟩
set_option maxRecDepth 20000 in
theorem yv_2_copyFrom : kYV yX2_copyFrom cX2_copyFrom 3 none 2 1 := ⟨wsA_3 146 rfl rfl, wsA_3 144 rfl rfl, wsA_3 145 rfl rfl, wsA_1 7 rfl rfl, ⟨by decide +kernel, by decide +kernel, by decide +kernel⟩, by decide, TX2, 3, rfl⟩
set_option maxRecDepth 20000 in
theorem yv_8_copyFrom : kYV yX8_copyFrom cX8_copyFrom 2 none 8 1 := ⟨wsA_3 151 rfl rfl, wsA_3 149 rfl rfl, wsA_3 150 rfl rfl, wsA_1 8 rfl rfl, ⟨by decide +kernel, by decide +kernel, by decide +kernel⟩, by decide, TX8, 4, rfl⟩
set_option maxRecDepth 20000 in
theorem yv_10_again : kYV yX10_again cX10_again 3 (some .boolean) 10 1 := ⟨wsA_3 156 rfl rfl, wsA_3 154 rfl rfl, wsA_3 155 rfl rfl, wsA_1 1 rfl rfl, ⟨by decide +kernel, by decide +kernel, by decide +kernel⟩, by decide, TX10, 5, rfl⟩
set_option maxRecDepth 20000 in
theorem yi_11 : kYI yX11_init cX11_init 3 := ⟨wsA_3 161 rfl rfl, wsA_3 160 rfl rfl, wsA_1 12 rfl rfl, ⟨by decide +kernel, by decide +kernel, by decide +kernel⟩, by decide, rfl⟩
set_option maxRecDepth 20000 in
theorem yv_11_bin : kYV yX11_bin cX11_bin 4 (some .int) 11 2 := ⟨wsA_3 194 rfl rfl, wsA_3 192 rfl rfl, wsA_3 193 rfl rfl, wsA_1 12 rfl rfl, ⟨by decide +kernel, by decide +kernel, by decide +kernel⟩, by decide, TX11, 9, rfl⟩
set_option maxRecDepth 20000 in
theorem ys_11_isIn : kYS yX11_isIn cX11_isIn 3 (some .boolean) 3 := ⟨wsA_3 197 rfl rfl, wsA_3 196 rfl rfl, wsA_1 12 rfl rfl, ⟨by decide +kernel, by decide +kernel, by decide +kernel⟩, by decide⟩
set_option maxRecDepth 20000 in
theorem yv_11_fill : kYV yX11_fill cX11_fill 3 (some .int) 11 2 := ⟨wsA_3 201 rfl rfl, wsA_3 199 rfl rfl, wsA_3 200 rfl rfl, wsA_1 12 rfl rfl, ⟨by decide +kernel, by decide +kernel, by decide +kernel⟩, by decide, TX11, 9, rfl⟩
set_option maxRecDepth 20000 in
theorem yv_11_isOf : kYV yX11_isOf cX11_isOf 3 (some .boolean) 11 2 := ⟨wsA_3 205 rfl rfl, wsA_3 204 rfl rfl, wsA_p 7 (n := 9) rfl rfl, wsA_1 12 rfl rfl, ⟨by decide +kernel, by decide +kernel, by decide +kernel⟩, by decide, TX11, 9, rfl⟩
set_option maxRecDepth 20000 in
theorem yv_11_lot : kYV yX11_lot cX11_lot 2 (some .int) 11 1 := ⟨wsA_3 210 rfl rfl, wsA_3 208 rfl rfl, wsA_3 209 rfl rfl, wsA_1 12 rfl rfl, ⟨by decide +kernel, by decide +kernel, by decide +kernel⟩, by decide, TX11, 9, rfl⟩
set_option maxRecDepth 20000 in
theorem yv_11_rule : kYV yX11_rule cX11_rule 3 (some .boolean) 11 2 := ⟨wsA_3 215 rfl rfl, wsA_3 213 rfl rfl, wsA_3 214 rfl rfl, wsA_1 12 rfl rfl, ⟨by decide +kernel, by decide +kernel, by decide +kernel⟩, by decide, TX11, 9, rfl⟩
set_option maxRecDepth 20000 in
theorem ys_11_leastOf : kYS yX11_leastOf cX11_leastOf 1 (some .int) 1 := ⟨wsA_3 218 rfl rfl, wsA_3 217 rfl rfl, wsA_1 12 rfl rfl, ⟨by decide +kernel, by decide +kernel, by decide +kernel⟩, by decide⟩
set_option maxRecDepth 20000 in
theorem ys_11_mostOf : kYS yX11_mostOf cX11_mostOf 1 (some .int) 1 := ⟨wsA_3 221 rfl rfl, wsA_3 220 rfl rfl, wsA_1 12 rfl rfl, ⟨by decide +kernel, by decide +kernel, by decide +kernel⟩, by decide⟩
set_option maxRecDepth 20000 in
theorem yv_11_lay : kYV yX11_lay cX11_lay 12 (some .int) 11 3 := ⟨wsA_3 225 rfl rfl, wsA_3 223 rfl rfl, wsA_3 224 rfl rfl, wsA_1 12 rfl rfl, ⟨by decide +kernel, by decide +kernel, by decide +kernel⟩, by decide, TX11, 9, rfl⟩
set_option maxRecDepth 20000 in
theorem yv_11_glueLeft : kYV yX11_glueLeft cX11_glueLeft 3 (some .int) 11 0 := ⟨wsA_3 229 rfl rfl, wsA_3 228 rfl rfl, wsA_p 8 (n := 9) rfl rfl, wsA_1 12 rfl rfl, ⟨by decide +kernel, by decide +kernel, by decide +kernel⟩, by decide, TX11, 9, rfl⟩
set_option maxRecDepth 20000 in
theorem yv_11_takes : kYV yX11_takes cX11_takes 6 (some .int) 11 1 := ⟨wsA_3 233 rfl rfl, wsA_3 232 rfl rfl, wsA_p 9 (n := 9) rfl rfl, wsA_1 12 rfl rfl, ⟨by decide +kernel, by decide +kernel, by decide +kernel⟩, by decide, TX11, 9, rfl⟩
set_option maxRecDepth 20000 in
theorem yv_11_mat : kYV yX11_mat cX11_mat 3 (some .int) 11 2 := ⟨wsA_3 237 rfl rfl, wsA_3 235 rfl rfl, wsA_3 236 rfl rfl, wsA_1 12 rfl rfl, ⟨by decide +kernel, by decide +kernel, by decide +kernel⟩, by decide, TX11, 9, rfl⟩
set_option maxRecDepth 20000 in
theorem yv_11_recall : kYV yX11_recall cX11_recall 4 (some .int) 11 1 := ⟨wsA_4 1 rfl rfl, wsA_3 239 rfl rfl, wsA_4 0 rfl rfl, wsA_1 12 rfl rfl, ⟨by decide +kernel, by decide +kernel, by decide +kernel⟩, by decide, TX11, 9, rfl⟩
set_option maxRecDepth 20000 in
theorem yv_11_plate : kYV yX11_plate cX11_plate 2 (some .int) 11 1 := ⟨wsA_4 5 rfl rfl, wsA_4 3 rfl rfl, wsA_4 4 rfl rfl, wsA_1 12 rfl rfl, ⟨by decide +kernel, by decide +kernel, by decide +kernel⟩, by decide, TX11, 9, rfl⟩
set_option maxRecDepth 20000 in
theorem yv_11_time : kYV yX11_time cX11_time 4 (some .int) 11 2 := ⟨wsA_4 9 rfl rfl, wsA_4 7 rfl rfl, wsA_4 8 rfl rfl, wsA_1 12 rfl rfl, ⟨by decide +kernel, by decide +kernel, by decide +kernel⟩, by decide, TX11, 9, rfl⟩
set_option maxRecDepth 20000 in
theorem yv_11_cold : kYV yX11_cold cX11_cold 2 none 11 0 := ⟨wsA_4 13 rfl rfl, wsA_4 12 rfl rfl, wsA_p 10 (n := 9) rfl rfl, wsA_1 12 rfl rfl, ⟨by decide +kernel, by decide +kernel, by decide +kernel⟩, by decide, TX11, 9, rfl⟩
set_option maxRecDepth 20000 in
theorem yv_11_tick : kYV yX11_tick cX11_tick 6 none 11 1 := ⟨wsA_4 17 rfl rfl, wsA_4 16 rfl rfl, wsA_p 11 (n := 9) rfl rfl, wsA_1 12 rfl rfl, ⟨by decide +kernel, by decide +kernel, by decide +kernel⟩, by decide, TX11, 9, rfl⟩
set_option maxRecDepth 20000 in
theorem yv_11_mayOpen : kYV yX11_mayOpen cX11_mayOpen 4 (some .boolean) 11 1 := ⟨wsA_4 21 rfl rfl, wsA_4 20 rfl rfl, wsA_p 12 (n := 9) rfl rfl, wsA_1 12 rfl rfl, ⟨by decide +kernel, by decide +kernel, by decide +kernel⟩, by decide, TX11, 9, rfl⟩
set_option maxRecDepth 20000 in
theorem yv_11_steam : kYV yX11_steam cX11_steam 3 (some .int) 11 2 := ⟨wsA_4 25 rfl rfl, wsA_4 24 rfl rfl, wsA_p 13 (n := 9) rfl rfl, wsA_1 12 rfl rfl, ⟨by decide +kernel, by decide +kernel, by decide +kernel⟩, by decide, TX11, 9, rfl⟩
set_option maxRecDepth 20000 in
theorem yv_11_fastest : kYV yX11_fastest cX11_fastest 6 (some .int) 11 1 := ⟨wsA_4 29 rfl rfl, wsA_4 27 rfl rfl, wsA_4 28 rfl rfl, wsA_1 12 rfl rfl, ⟨by decide +kernel, by decide +kernel, by decide +kernel⟩, by decide, TX11, 9, rfl⟩
set_option maxRecDepth 20000 in
theorem yv_11_press : kYV yX11_press cX11_press 4 (some .boolean) 11 2 := ⟨wsA_4 34 rfl rfl, wsA_4 32 rfl rfl, wsA_4 33 rfl rfl, wsA_1 12 rfl rfl, ⟨by decide +kernel, by decide +kernel, by decide +kernel⟩, by decide, TX11, 9, rfl⟩
set_option maxRecDepth 20000 in
theorem yv_11_shell : kYV yX11_shell cX11_shell 7 (some .int) 11 5 := ⟨wsA_4 38 rfl rfl, wsA_4 36 rfl rfl, wsA_4 37 rfl rfl, wsA_1 12 rfl rfl, ⟨by decide +kernel, by decide +kernel, by decide +kernel⟩, by decide, TX11, 9, rfl⟩
set_option maxRecDepth 20000 in
theorem yv_11_link : kYV yX11_link cX11_link 4 (some .boolean) 11 3 := ⟨wsA_4 42 rfl rfl, wsA_4 40 rfl rfl, wsA_4 41 rfl rfl, wsA_1 12 rfl rfl, ⟨by decide +kernel, by decide +kernel, by decide +kernel⟩, by decide, TX11, 9, rfl⟩
set_option maxRecDepth 20000 in
theorem yv_11_state : kYV yX11_state cX11_state 4 (some .boolean) 11 3 := ⟨wsA_4 46 rfl rfl, wsA_4 44 rfl rfl, wsA_4 45 rfl rfl, wsA_1 12 rfl rfl, ⟨by decide +kernel, by decide +kernel, by decide +kernel⟩, by decide, TX11, 9, rfl⟩
set_option maxRecDepth 20000 in
theorem yv_11_badRow : kYV yX11_badRow cX11_badRow 1 (some .int) 11 0 := ⟨wsA_4 50 rfl rfl, wsA_4 48 rfl rfl, wsA_4 49 rfl rfl, wsA_1 12 rfl rfl, ⟨by decide +kernel, by decide +kernel, by decide +kernel⟩, by decide, TX11, 9, rfl⟩
set_option maxRecDepth 20000 in
theorem yv_11_distances : kYV yX11_distances cX11_distances 5 none 11 0 := ⟨wsA_4 54 rfl rfl, wsA_4 53 rfl rfl, wsA_p 14 (n := 9) rfl rfl, wsA_1 12 rfl rfl, ⟨by decide +kernel, by decide +kernel, by decide +kernel⟩, by decide, TX11, 9, rfl⟩
set_option maxRecDepth 20000 in
theorem yv_11_onward : kYV yX11_onward cX11_onward 4 (some .int) 11 2 := ⟨wsA_4 58 rfl rfl, wsA_4 57 rfl rfl, wsA_p 15 (n := 9) rfl rfl, wsA_1 12 rfl rfl, ⟨by decide +kernel, by decide +kernel, by decide +kernel⟩, by decide, TX11, 9, rfl⟩
set_option maxRecDepth 20000 in
theorem yv_11_next : kYV yX11_next cX11_next 6 (some .int) 11 2 := ⟨wsA_4 62 rfl rfl, wsA_4 61 rfl rfl, wsA_p 16 (n := 9) rfl rfl, wsA_1 12 rfl rfl, ⟨by decide +kernel, by decide +kernel, by decide +kernel⟩, by decide, TX11, 9, rfl⟩
set_option maxRecDepth 20000 in
theorem yv_11_isBad : kYV yX11_isBad cX11_isBad 2 (some .boolean) 11 1 := ⟨wsA_4 66 rfl rfl, wsA_4 65 rfl rfl, wsA_p 17 (n := 9) rfl rfl, wsA_1 12 rfl rfl, ⟨by decide +kernel, by decide +kernel, by decide +kernel⟩, by decide, TX11, 9, rfl⟩
set_option maxRecDepth 20000 in
theorem yv_11_bad : kYV yX11_bad cX11_bad 6 (some .int) 11 1 := ⟨wsA_4 70 rfl rfl, wsA_4 68 rfl rfl, wsA_4 69 rfl rfl, wsA_1 12 rfl rfl, ⟨by decide +kernel, by decide +kernel, by decide +kernel⟩, by decide, TX11, 9, rfl⟩
set_option maxRecDepth 20000 in
theorem yv_11_sheet : kYV yX11_sheet cX11_sheet 5 (some .int) 11 3 := ⟨wsA_4 74 rfl rfl, wsA_4 72 rfl rfl, wsA_4 73 rfl rfl, wsA_1 12 rfl rfl, ⟨by decide +kernel, by decide +kernel, by decide +kernel⟩, by decide, TX11, 9, rfl⟩
set_option maxRecDepth 20000 in
theorem yv_11_best : kYV yX11_best cX11_best 3 (some .int) 11 2 := ⟨wsA_4 78 rfl rfl, wsA_4 76 rfl rfl, wsA_4 77 rfl rfl, wsA_1 12 rfl rfl, ⟨by decide +kernel, by decide +kernel, by decide +kernel⟩, by decide, TX11, 9, rfl⟩
set_option maxRecDepth 20000 in
theorem ys_11_isBoard : kYS yX11_isBoard cX11_isBoard 2 (some .boolean) 2 := ⟨wsA_4 81 rfl rfl, wsA_4 80 rfl rfl, wsA_1 12 rfl rfl, ⟨by decide +kernel, by decide +kernel, by decide +kernel⟩, by decide⟩
set_option maxRecDepth 20000 in
theorem yv_11_reckons : kYV yX11_reckons cX11_reckons 5 none 11 2 := ⟨wsA_4 85 rfl rfl, wsA_4 84 rfl rfl, wsA_p 18 (n := 9) rfl rfl, wsA_1 12 rfl rfl, ⟨by decide +kernel, by decide +kernel, by decide +kernel⟩, by decide, TX11, 9, rfl⟩
set_option maxRecDepth 20000 in
theorem yv_11_settles : kYV yX11_settles cX11_settles 5 none 11 2 := ⟨wsA_4 89 rfl rfl, wsA_4 88 rfl rfl, wsA_p 19 (n := 9) rfl rfl, wsA_1 12 rfl rfl, ⟨by decide +kernel, by decide +kernel, by decide +kernel⟩, by decide, TX11, 9, rfl⟩
set_option maxRecDepth 20000 in
theorem ys_11_board : kYS yX11_board cX11_board 2 (some .int) 2 := ⟨wsA_4 92 rfl rfl, wsA_4 91 rfl rfl, wsA_1 12 rfl rfl, ⟨by decide +kernel, by decide +kernel, by decide +kernel⟩, by decide⟩
set_option maxRecDepth 20000 in
theorem yv_11_tries : kYV yX11_tries cX11_tries 4 none 11 3 := ⟨wsA_4 96 rfl rfl, wsA_4 95 rfl rfl, wsA_p 20 (n := 9) rfl rfl, wsA_1 12 rfl rfl, ⟨by decide +kernel, by decide +kernel, by decide +kernel⟩, by decide, TX11, 9, rfl⟩
set_option maxRecDepth 20000 in
theorem yv_11_cuts : kYV yX11_cuts cX11_cuts 6 (some .int) 11 3 := ⟨wsA_4 100 rfl rfl, wsA_4 98 rfl rfl, wsA_4 99 rfl rfl, wsA_1 12 rfl rfl, ⟨by decide +kernel, by decide +kernel, by decide +kernel⟩, by decide, TX11, 9, rfl⟩
set_option maxRecDepth 20000 in
theorem yv_11_comes : kYV yX11_comes cX11_comes 7 (some .int) 11 3 := ⟨wsA_4 104 rfl rfl, wsA_4 103 rfl rfl, wsA_p 21 (n := 9) rfl rfl, wsA_1 12 rfl rfl, ⟨by decide +kernel, by decide +kernel, by decide +kernel⟩, by decide, TX11, 9, rfl⟩
set_option maxRecDepth 20000 in
theorem yv_11_count : kYV yX11_count cX11_count 5 (some .int) 11 1 := ⟨wsA_4 108 rfl rfl, wsA_4 106 rfl rfl, wsA_4 107 rfl rfl, wsA_1 12 rfl rfl, ⟨by decide +kernel, by decide +kernel, by decide +kernel⟩, by decide, TX11, 9, rfl⟩
set_option maxRecDepth 20000 in
theorem yv_11_image : kYV yX11_image cX11_image 3 (some .boolean) 11 1 := ⟨wsA_4 112 rfl rfl, wsA_4 110 rfl rfl, wsA_4 111 rfl rfl, wsA_1 12 rfl rfl, ⟨by decide +kernel, by decide +kernel, by decide +kernel⟩, by decide, TX11, 9, rfl⟩
set_option maxRecDepth 20000 in
theorem yv_11_again : kYV yX11_again cX11_again 3 (some .boolean) 11 1 := ⟨wsA_4 116 rfl rfl, wsA_4 114 rfl rfl, wsA_4 115 rfl rfl, wsA_1 12 rfl rfl, ⟨by decide +kernel, by decide +kernel, by decide +kernel⟩, by decide, TX11, 9, rfl⟩
set_option maxRecDepth 20000 in
theorem cl_L_7 : Cond.classLink RL 7 RX10 ∈ wsA := wsA_1 15 rfl rfl
set_option maxRecDepth 20000 in
theorem nw_L_7 : kNW RL 7 10 [.null, .null, .null, .null, .null] := ⟨RX10, TX10, 5, tyX10, rfl, in_X10, tyX10_ok, wsA_1 15 rfl rfl, wsA_1 16 rfl rfl, wsA_1 1 rfl rfl, fun j hj => by rcases (show j = 0 ∨ j = 1 ∨ j = 2 ∨ j = 3 ∨ j = 4 by omega) with rfl | rfl | rfl | rfl | rfl <;> rfl, rfl⟩
set_option maxRecDepth 20000 in
theorem ml_L_9 : Cond.methodLink RL 9 yX10_init ∈ wsA := wsA_1 17 rfl rfl
set_option maxRecDepth 20000 in
theorem ml_X10_1 : Cond.methodLink RX10 1 objectInit ∈ wsA := wsA_1 20 rfl rfl
set_option maxRecDepth 20000 in
theorem cl_X10_7 : Cond.classLink RX10 7 RX9 ∈ wsA := wsA_1 23 rfl rfl
set_option maxRecDepth 20000 in
theorem nw_X10_7 : kNW RX10 7 9 [.null, .null, .null, .null, .null, .null, .int (zI 0), .int (zI 0), .int (zI 0), .int (zI 0)] := ⟨RX9, TX9, 10, tyX9, rfl, in_X9, tyX9_ok, wsA_1 23 rfl rfl, wsA_1 24 rfl rfl, wsA_1 2 rfl rfl, fun j hj => by rcases (show j = 0 ∨ j = 1 ∨ j = 2 ∨ j = 3 ∨ j = 4 ∨ j = 5 ∨ j = 6 ∨ j = 7 ∨ j = 8 ∨ j = 9 by omega) with rfl | rfl | rfl | rfl | rfl | rfl | rfl | rfl | rfl | rfl <;> rfl, rfl⟩
set_option maxRecDepth 20000 in
theorem ml_X9_1 : Cond.methodLink RX9 1 objectInit ∈ wsA := wsA_1 28 rfl rfl
set_option maxRecDepth 20000 in
theorem cl_X9_7 : Cond.classLink RX9 7 RX0 ∈ wsA := wsA_1 29 rfl rfl
set_option maxRecDepth 20000 in
theorem nw_X9_7 : kNW RX9 7 0 [.int (zI 0), .null, .null, .null] := ⟨RX0, TX0, 4, tyX0, rfl, in_X0, tyX0_ok, wsA_1 29 rfl rfl, wsA_1 30 rfl rfl, wsA_1 3 rfl rfl, fun j hj => by rcases (show j = 0 ∨ j = 1 ∨ j = 2 ∨ j = 3 by omega) with rfl | rfl | rfl | rfl <;> rfl, rfl⟩
set_option maxRecDepth 20000 in
theorem ml_X0_3 : Cond.methodLink RX0 3 objectInit ∈ wsA := wsA_1 34 rfl rfl
set_option maxRecDepth 20000 in
theorem cl_X9_16 : Cond.classLink RX9 16 RX4 ∈ wsA := wsA_1 51 rfl rfl
set_option maxRecDepth 20000 in
theorem nw_X9_16 : kNW RX9 16 4 [.int (zI 0), .null] := ⟨RX4, TX4, 2, tyX4, rfl, in_X4, tyX4_ok, wsA_1 51 rfl rfl, wsA_1 52 rfl rfl, wsA_1 4 rfl rfl, fun j hj => by rcases (show j = 0 ∨ j = 1 by omega) with rfl | rfl <;> rfl, rfl⟩
set_option maxRecDepth 20000 in
theorem ml_X4_3 : Cond.methodLink RX4 3 objectInit ∈ wsA := wsA_1 56 rfl rfl
set_option maxRecDepth 20000 in
theorem cl_X9_23 : Cond.classLink RX9 23 RX5 ∈ wsA := wsA_1 65 rfl rfl
set_option maxRecDepth 20000 in
theorem nw_X9_23 : kNW RX9 23 5 [.int (zI 0), .null] := ⟨RX5, TX5, 2, tyX5, rfl, in_X5, tyX5_ok, wsA_1 65 rfl rfl, wsA_1 66 rfl rfl, wsA_1 5 rfl rfl, fun j hj => by rcases (show j = 0 ∨ j = 1 by omega) with rfl | rfl <;> rfl, rfl⟩
set_option maxRecDepth 20000 in
theorem ml_X5_3 : Cond.methodLink RX5 3 objectInit ∈ wsA := wsA_1 70 rfl rfl
set_option maxRecDepth 20000 in
theorem cl_X9_30 : Cond.classLink RX9 30 RX6 ∈ wsA := wsA_1 79 rfl rfl
set_option maxRecDepth 20000 in
theorem nw_X9_30 : kNW RX9 30 6 [.int (zI 0), .null] := ⟨RX6, TX6, 2, tyX6, rfl, in_X6, tyX6_ok, wsA_1 79 rfl rfl, wsA_1 80 rfl rfl, wsA_1 6 rfl rfl, fun j hj => by rcases (show j = 0 ∨ j = 1 by omega) with rfl | rfl <;> rfl, rfl⟩
set_option maxRecDepth 20000 in
theorem ml_X6_3 : Cond.methodLink RX6 3 objectInit ∈ wsA := wsA_1 84 rfl rfl
set_option maxRecDepth 20000 in
theorem cl_X9_37 : Cond.classLink RX9 37 RX2 ∈ wsA := wsA_1 93 rfl rfl
set_option maxRecDepth 20000 in
theorem nw_X9_37 : kNW RX9 37 2 [.null, .null, .null] := ⟨RX2, TX2, 3, tyX2, rfl, in_X2, tyX2_ok, wsA_1 93 rfl rfl, wsA_1 94 rfl rfl, wsA_1 7 rfl rfl, fun j hj => by rcases (show j = 0 ∨ j = 1 ∨ j = 2 by omega) with rfl | rfl | rfl <;> rfl, rfl⟩
set_option maxRecDepth 20000 in
theorem ml_X9_39 : Cond.methodLink RX9 39 yX2_init ∈ wsA := wsA_1 95 rfl rfl
set_option maxRecDepth 20000 in
theorem ml_X2_3 : Cond.methodLink RX2 3 objectInit ∈ wsA := wsA_1 98 rfl rfl
set_option maxRecDepth 20000 in
theorem cl_X9_44 : Cond.classLink RX9 44 RX8 ∈ wsA := wsA_1 109 rfl rfl
set_option maxRecDepth 20000 in
theorem nw_X9_44 : kNW RX9 44 8 [.int (zI 0), .null, .null, .null] := ⟨RX8, TX8, 4, tyX8, rfl, in_X8, tyX8_ok, wsA_1 109 rfl rfl, wsA_1 110 rfl rfl, wsA_1 8 rfl rfl, fun j hj => by rcases (show j = 0 ∨ j = 1 ∨ j = 2 ∨ j = 3 by omega) with rfl | rfl | rfl | rfl <;> rfl, rfl⟩
set_option maxRecDepth 20000 in
theorem ml_X8_3 : Cond.methodLink RX8 3 objectInit ∈ wsA := wsA_1 114 rfl rfl
set_option maxRecDepth 20000 in
theorem cl_X10_20 : Cond.classLink RX10 20 RX3 ∈ wsA := wsA_1 171 rfl rfl
set_option maxRecDepth 20000 in
theorem nw_X10_20 : kNW RX10 20 3 [.null, .null, .null] := ⟨RX3, TX3, 3, tyX3, rfl, in_X3, tyX3_ok, wsA_1 171 rfl rfl, wsA_1 172 rfl rfl, wsA_1 9 rfl rfl, fun j hj => by rcases (show j = 0 ∨ j = 1 ∨ j = 2 by omega) with rfl | rfl | rfl <;> rfl, rfl⟩
set_option maxRecDepth 20000 in
theorem ml_X3_3 : Cond.methodLink RX3 3 objectInit ∈ wsA := wsA_1 176 rfl rfl
set_option maxRecDepth 20000 in
theorem cl_X10_27 : Cond.classLink RX10 27 RX7 ∈ wsA := wsA_1 187 rfl rfl
set_option maxRecDepth 20000 in
theorem nw_X10_27 : kNW RX10 27 7 [.null, .null, .null, .null, .null, .int (zI 0)] := ⟨RX7, TX7, 6, tyX7, rfl, in_X7, tyX7_ok, wsA_1 187 rfl rfl, wsA_1 188 rfl rfl, wsA_1 10 rfl rfl, fun j hj => by rcases (show j = 0 ∨ j = 1 ∨ j = 2 ∨ j = 3 ∨ j = 4 ∨ j = 5 by omega) with rfl | rfl | rfl | rfl | rfl | rfl <;> rfl, rfl⟩
set_option maxRecDepth 20000 in
theorem ml_X7_7 : Cond.methodLink RX7 7 objectInit ∈ wsA := wsA_1 192 rfl rfl
set_option maxRecDepth 20000 in
theorem cl_X10_34 : Cond.classLink RX10 34 RX1 ∈ wsA := wsA_1 212 rfl rfl
set_option maxRecDepth 20000 in
theorem nw_X10_34 : kNW RX10 34 1 [.null, .null, .int (zI 0), .int (zI 0), .int (zI 0), .int (zI 0)] := ⟨RX1, TX1, 6, tyX1, rfl, in_X1, tyX1_ok, wsA_1 212 rfl rfl, wsA_1 213 rfl rfl, wsA_1 11 rfl rfl, fun j hj => by rcases (show j = 0 ∨ j = 1 ∨ j = 2 ∨ j = 3 ∨ j = 4 ∨ j = 5 by omega) with rfl | rfl | rfl | rfl | rfl | rfl <;> rfl, rfl⟩
set_option maxRecDepth 20000 in
theorem ml_X1_7 : Cond.methodLink RX1 7 objectInit ∈ wsA := wsA_1 217 rfl rfl
-- classLink ChipBoards$CutTable 17 [[I: wsA_1 218 rfl rfl
set_option maxRecDepth 20000 in
theorem cl_X1_17 : Cond.classLink RX1 17 "[[I" ∈ wsA := wsA_1 218 rfl rfl
set_option maxRecDepth 20000 in
theorem ml_L_13 : Cond.methodLink RL 13 yX10_bin ∈ wsA := wsA_2 15 rfl rfl
set_option maxRecDepth 20000 in
theorem ml_X10_45 : Cond.methodLink RX10 45 yX0_add ∈ wsA := wsA_2 19 rfl rfl
set_option maxRecDepth 20000 in
theorem ml_L_18 : Cond.methodLink RL 18 yX10_fill ∈ wsA := wsA_2 23 rfl rfl
set_option maxRecDepth 20000 in
theorem ml_X10_51 : Cond.methodLink RX10 51 yX0_pour ∈ wsA := wsA_2 27 rfl rfl
set_option maxRecDepth 20000 in
theorem ml_X0_26 : Cond.methodLink RX0 26 yX0_has ∈ wsA := wsA_2 31 rfl rfl
set_option maxRecDepth 20000 in
theorem kc_X0_30 : Cond.constant RX0 30 (1000000) ∈ wsA := wsA_2 35 rfl rfl
set_option maxRecDepth 20000 in
theorem ml_L_23 : Cond.methodLink RL 23 yX10_lot ∈ wsA := wsA_2 36 rfl rfl
set_option maxRecDepth 20000 in
theorem ml_X10_59 : Cond.methodLink RX10 59 yX4_add ∈ wsA := wsA_2 40 rfl rfl
set_option maxRecDepth 20000 in
theorem kc_X4_19 : Cond.constant RX4 19 (100000) ∈ wsA := wsA_2 44 rfl rfl
set_option maxRecDepth 20000 in
theorem ml_L_28 : Cond.methodLink RL 28 yX10_rule ∈ wsA := wsA_2 45 rfl rfl
set_option maxRecDepth 20000 in
theorem ml_X10_64 : Cond.methodLink RX10 64 yX9_setRule ∈ wsA := wsA_2 49 rfl rfl
set_option maxRecDepth 20000 in
theorem ml_X10_68 : Cond.methodLink RX10 68 yX1_forget ∈ wsA := wsA_2 53 rfl rfl
set_option maxRecDepth 20000 in
theorem ml_L_33 : Cond.methodLink RL 33 yX10_lay ∈ wsA := wsA_2 57 rfl rfl
set_option maxRecDepth 20000 in
theorem ml_X10_75 : Cond.methodLink RX10 75 yX5_isFull ∈ wsA := wsA_2 61 rfl rfl
set_option maxRecDepth 20000 in
theorem ml_X10_81 : Cond.methodLink RX10 81 yX0_has ∈ wsA := wsA_2 65 rfl rfl
set_option maxRecDepth 20000 in
theorem ml_X10_89 : Cond.methodLink RX10 89 yX0_usedPart ∈ wsA := wsA_2 66 rfl rfl
set_option maxRecDepth 20000 in
theorem ml_X10_92 : Cond.methodLink RX10 92 yX0_canGive ∈ wsA := wsA_2 70 rfl rfl
set_option maxRecDepth 20000 in
theorem ml_X0_31 : Cond.methodLink RX0 31 yX0_gramsOf ∈ wsA := wsA_2 74 rfl rfl
set_option maxRecDepth 20000 in
theorem ml_X10_96 : Cond.methodLink RX10 96 yX4_total ∈ wsA := wsA_2 78 rfl rfl
set_option maxRecDepth 20000 in
theorem ml_X10_103 : Cond.methodLink RX10 103 yX0_dampOf ∈ wsA := wsA_2 82 rfl rfl
set_option maxRecDepth 20000 in
theorem ml_X10_106 : Cond.methodLink RX10 106 yX0_give ∈ wsA := wsA_2 86 rfl rfl
set_option maxRecDepth 20000 in
theorem ml_X10_110 : Cond.methodLink RX10 110 yX5_add ∈ wsA := wsA_2 90 rfl rfl
set_option maxRecDepth 20000 in
theorem ml_X5_19 : Cond.methodLink RX5 19 yX5_isFull ∈ wsA := wsA_2 94 rfl rfl
set_option maxRecDepth 20000 in
theorem ml_X10_112 : Cond.methodLink RX10 112 yX5_put ∈ wsA := wsA_2 95 rfl rfl
set_option maxRecDepth 20000 in
theorem ml_X5_23 : Cond.methodLink RX5 23 yX5_has ∈ wsA := wsA_2 99 rfl rfl
set_option maxRecDepth 20000 in
theorem ml_X10_116 : Cond.methodLink RX10 116 yX4_draw ∈ wsA := wsA_2 103 rfl rfl
set_option maxRecDepth 20000 in
theorem ml_X4_24 : Cond.methodLink RX4 24 Lib.Math.min.name ∈ wsA := wsA_2 107 rfl rfl
set_option maxRecDepth 20000 in
theorem ml_L_38 : Cond.methodLink RL 38 yX10_mat ∈ wsA := wsA_2 110 rfl rfl
set_option maxRecDepth 20000 in
theorem ml_X10_119 : Cond.methodLink RX10 119 yX5_get ∈ wsA := wsA_2 114 rfl rfl
set_option maxRecDepth 20000 in
theorem ml_L_42 : Cond.methodLink RL 42 yX10_recall ∈ wsA := wsA_2 118 rfl rfl
set_option maxRecDepth 20000 in
theorem ml_X10_122 : Cond.methodLink RX10 122 yX4_has ∈ wsA := wsA_2 122 rfl rfl
set_option maxRecDepth 20000 in
theorem ml_X10_123 : Cond.methodLink RX10 123 yX5_withLot ∈ wsA := wsA_2 126 rfl rfl
set_option maxRecDepth 20000 in
theorem ml_X5_27 : Cond.methodLink RX5 27 yX5_get ∈ wsA := wsA_2 130 rfl rfl
set_option maxRecDepth 20000 in
theorem ml_L_46 : Cond.methodLink RL 46 yX10_plate ∈ wsA := wsA_2 131 rfl rfl
set_option maxRecDepth 20000 in
theorem ml_X10_130 : Cond.methodLink RX10 130 yX6_add ∈ wsA := wsA_2 135 rfl rfl
set_option maxRecDepth 20000 in
theorem ml_L_50 : Cond.methodLink RL 50 yX10_time ∈ wsA := wsA_2 139 rfl rfl
set_option maxRecDepth 20000 in
theorem ml_X10_133 : Cond.methodLink RX10 133 yX10_timeOf ∈ wsA := wsA_2 143 rfl rfl
set_option maxRecDepth 20000 in
theorem ml_X10_139 : Cond.methodLink RX10 139 yX5_has ∈ wsA := wsA_2 147 rfl rfl
set_option maxRecDepth 20000 in
theorem ml_X10_140 : Cond.methodLink RX10 140 yX6_has ∈ wsA := wsA_2 148 rfl rfl
set_option maxRecDepth 20000 in
theorem ml_X10_141 : Cond.methodLink RX10 141 yX6_heatOf ∈ wsA := wsA_2 152 rfl rfl
set_option maxRecDepth 20000 in
theorem ml_X6_19 : Cond.methodLink RX6 19 yX6_has ∈ wsA := wsA_2 156 rfl rfl
set_option maxRecDepth 20000 in
theorem ml_X10_144 : Cond.methodLink RX10 144 yX3_begin ∈ wsA := wsA_2 157 rfl rfl
set_option maxRecDepth 20000 in
theorem ml_X10_148 : Cond.methodLink RX10 148 yX3_tick ∈ wsA := wsA_2 161 rfl rfl
set_option maxRecDepth 20000 in
theorem ml_X3_21 : Cond.methodLink RX3 21 arraycopyName ∈ wsA := wsA_2 165 rfl rfl
set_option maxRecDepth 20000 in
theorem ml_X10_227 : Cond.methodLink RX10 227 yX3_mayOpen ∈ wsA := wsA_2 168 rfl rfl
set_option maxRecDepth 20000 in
theorem ml_X3_27 : Cond.methodLink RX3 27 yX3_steamOf ∈ wsA := wsA_2 172 rfl rfl
set_option maxRecDepth 20000 in
theorem ml_L_54 : Cond.methodLink RL 54 yX10_fastest ∈ wsA := wsA_2 176 rfl rfl
set_option maxRecDepth 20000 in
theorem ml_L_58 : Cond.methodLink RL 58 yX10_press ∈ wsA := wsA_2 180 rfl rfl
set_option maxRecDepth 20000 in
theorem ml_X10_136 : Cond.methodLink RX10 136 yX5_isPressed ∈ wsA := wsA_2 184 rfl rfl
set_option maxRecDepth 20000 in
theorem ml_L_62 : Cond.methodLink RL 62 yX10_shell ∈ wsA := wsA_2 188 rfl rfl
set_option maxRecDepth 20000 in
theorem ml_X10_151 : Cond.methodLink RX10 151 yX3_heatOf ∈ wsA := wsA_2 192 rfl rfl
set_option maxRecDepth 20000 in
theorem ml_X10_152 : Cond.methodLink RX10 152 yX3_cureOf ∈ wsA := wsA_2 196 rfl rfl
set_option maxRecDepth 20000 in
theorem ml_X10_155 : Cond.methodLink RX10 155 yX3_steamOf ∈ wsA := wsA_2 200 rfl rfl
set_option maxRecDepth 20000 in
theorem ml_L_67 : Cond.methodLink RL 67 yX10_link ∈ wsA := wsA_2 201 rfl rfl
set_option maxRecDepth 20000 in
theorem ml_X10_162 : Cond.methodLink RX10 162 yX2_lead ∈ wsA := wsA_2 205 rfl rfl
set_option maxRecDepth 20000 in
theorem ml_X2_22 : Cond.methodLink RX2 22 yX2_isState ∈ wsA := wsA_2 209 rfl rfl
set_option maxRecDepth 20000 in
theorem ml_X2_26 : Cond.methodLink RX2 26 yX2_isEvent ∈ wsA := wsA_2 212 rfl rfl
set_option maxRecDepth 20000 in
theorem ml_L_72 : Cond.methodLink RL 72 yX10_state ∈ wsA := wsA_2 215 rfl rfl
set_option maxRecDepth 20000 in
theorem ml_X10_168 : Cond.methodLink RX10 168 yX2_equip ∈ wsA := wsA_2 219 rfl rfl
set_option maxRecDepth 20000 in
theorem ml_L_77 : Cond.methodLink RL 77 yX10_badRow ∈ wsA := wsA_2 223 rfl rfl
set_option maxRecDepth 20000 in
theorem ml_X10_172 : Cond.methodLink RX10 172 yX7_find ∈ wsA := wsA_2 227 rfl rfl
set_option maxRecDepth 20000 in
theorem ml_X7_34 : Cond.methodLink RX7 34 yX7_reach ∈ wsA := wsA_2 231 rfl rfl
set_option maxRecDepth 20000 in
theorem ml_X7_38 : Cond.methodLink RX7 38 yX2_after ∈ wsA := wsA_2 235 rfl rfl
set_option maxRecDepth 20000 in
theorem ml_X7_42 : Cond.methodLink RX7 42 yX2_waters ∈ wsA := wsA_2 239 rfl rfl
set_option maxRecDepth 20000 in
theorem ml_X7_46 : Cond.methodLink RX7 46 yX7_dangerAfter ∈ wsA := wsA_3 3 rfl rfl
set_option maxRecDepth 20000 in
theorem ml_X7_57 : Cond.methodLink RX7 57 Lib.Math.max.name ∈ wsA := wsA_3 6 rfl rfl
set_option maxRecDepth 20000 in
theorem ml_X7_50 : Cond.methodLink RX7 50 yX2_feeds ∈ wsA := wsA_3 9 rfl rfl
set_option maxRecDepth 20000 in
theorem ml_X7_53 : Cond.methodLink RX7 53 yX7_writeRow ∈ wsA := wsA_3 13 rfl rfl
set_option maxRecDepth 20000 in
theorem ml_L_82 : Cond.methodLink RL 82 yX10_bad ∈ wsA := wsA_3 17 rfl rfl
set_option maxRecDepth 20000 in
theorem ml_X10_176 : Cond.methodLink RX10 176 yX7_eventAt ∈ wsA := wsA_3 21 rfl rfl
set_option maxRecDepth 20000 in
theorem ml_L_86 : Cond.methodLink RL 86 yX10_sheet ∈ wsA := wsA_3 25 rfl rfl
set_option maxRecDepth 20000 in
theorem ml_X10_183 : Cond.methodLink RX10 183 yX8_add ∈ wsA := wsA_3 29 rfl rfl
set_option maxRecDepth 20000 in
theorem ml_X8_25 : Cond.methodLink RX8 25 yX8_hasSides ∈ wsA := wsA_3 33 rfl rfl
set_option maxRecDepth 20000 in
theorem ml_L_90 : Cond.methodLink RL 90 yX10_best ∈ wsA := wsA_3 36 rfl rfl
set_option maxRecDepth 20000 in
theorem ml_X10_191 : Cond.methodLink RX10 191 yX1_prepare ∈ wsA := wsA_3 40 rfl rfl
set_option maxRecDepth 20000 in
theorem ml_X1_36 : Cond.methodLink RX1 36 yX1_choose ∈ wsA := wsA_3 44 rfl rfl
set_option maxRecDepth 20000 in
theorem ml_X1_48 : Cond.methodLink RX1 48 yX8_dearestIn ∈ wsA := wsA_3 48 rfl rfl
set_option maxRecDepth 20000 in
theorem ml_X8_33 : Cond.methodLink RX8 33 yX8_worthOf ∈ wsA := wsA_3 52 rfl rfl
set_option maxRecDepth 20000 in
theorem ml_X8_29 : Cond.methodLink RX8 29 yX8_has ∈ wsA := wsA_3 56 rfl rfl
set_option maxRecDepth 20000 in
theorem ml_X1_51 : Cond.methodLink RX1 51 yX8_worthOf ∈ wsA := wsA_3 60 rfl rfl
set_option maxRecDepth 20000 in
theorem ml_X1_44 : Cond.methodLink RX1 44 yX1_place ∈ wsA := wsA_3 61 rfl rfl
set_option maxRecDepth 20000 in
theorem ml_X1_55 : Cond.methodLink RX1 55 yX1_tryCut ∈ wsA := wsA_3 64 rfl rfl
set_option maxRecDepth 20000 in
theorem ml_X1_59 : Cond.methodLink RX1 59 yX1_isPlace ∈ wsA := wsA_3 68 rfl rfl
set_option maxRecDepth 20000 in
theorem ml_X1_63 : Cond.methodLink RX1 63 yX1_writeCut ∈ wsA := wsA_3 71 rfl rfl
set_option maxRecDepth 20000 in
theorem ml_X1_67 : Cond.methodLink RX1 67 yX1_writeWhole ∈ wsA := wsA_3 75 rfl rfl
set_option maxRecDepth 20000 in
theorem ml_X10_195 : Cond.methodLink RX10 195 yX1_worthOf ∈ wsA := wsA_3 79 rfl rfl
set_option maxRecDepth 20000 in
theorem ml_X1_40 : Cond.methodLink RX1 40 yX8_hasSides ∈ wsA := wsA_3 83 rfl rfl
set_option maxRecDepth 20000 in
theorem ml_L_94 : Cond.methodLink RL 94 yX10_cuts ∈ wsA := wsA_3 84 rfl rfl
set_option maxRecDepth 20000 in
theorem ml_X10_198 : Cond.methodLink RX10 198 yX1_cutsOf ∈ wsA := wsA_3 88 rfl rfl
set_option maxRecDepth 20000 in
theorem ml_X10_201 : Cond.methodLink RX10 201 yX8_has ∈ wsA := wsA_3 92 rfl rfl
set_option maxRecDepth 20000 in
theorem ml_X10_202 : Cond.methodLink RX10 202 yX1_sheetsOf ∈ wsA := wsA_3 93 rfl rfl
set_option maxRecDepth 20000 in
theorem ml_L_98 : Cond.methodLink RL 98 yX10_count ∈ wsA := wsA_3 97 rfl rfl
set_option maxRecDepth 20000 in
theorem ml_X10_205 : Cond.methodLink RX10 205 yX0_gramsOf ∈ wsA := wsA_3 101 rfl rfl
set_option maxRecDepth 20000 in
theorem ml_X10_208 : Cond.methodLink RX10 208 yX4_gramsOf ∈ wsA := wsA_3 102 rfl rfl
set_option maxRecDepth 20000 in
theorem ml_X4_20 : Cond.methodLink RX4 20 yX4_has ∈ wsA := wsA_3 106 rfl rfl
set_option maxRecDepth 20000 in
theorem ml_X10_216 : Cond.methodLink RX10 216 yX0_total ∈ wsA := wsA_3 107 rfl rfl
set_option maxRecDepth 20000 in
theorem ml_X10_217 : Cond.methodLink RX10 217 yX5_pressed ∈ wsA := wsA_3 111 rfl rfl
set_option maxRecDepth 20000 in
theorem ml_X5_31 : Cond.methodLink RX5 31 yX5_isPressed ∈ wsA := wsA_3 115 rfl rfl
set_option maxRecDepth 20000 in
theorem ml_L_102 : Cond.methodLink RL 102 yX10_image ∈ wsA := wsA_3 116 rfl rfl
set_option maxRecDepth 20000 in
theorem ml_X10_220 : Cond.methodLink RX10 220 yX9_copyFrom ∈ wsA := wsA_3 120 rfl rfl
set_option maxRecDepth 20000 in
theorem ml_X9_64 : Cond.methodLink RX9 64 yX0_copyFrom ∈ wsA := wsA_3 124 rfl rfl
set_option maxRecDepth 20000 in
theorem ml_X9_68 : Cond.methodLink RX9 68 yX4_copyFrom ∈ wsA := wsA_3 128 rfl rfl
set_option maxRecDepth 20000 in
theorem ml_X4_30 : Cond.methodLink RX4 30 arraycopyName ∈ wsA := wsA_3 132 rfl rfl
set_option maxRecDepth 20000 in
theorem ml_X9_71 : Cond.methodLink RX9 71 yX5_copyFrom ∈ wsA := wsA_3 133 rfl rfl
set_option maxRecDepth 20000 in
theorem ml_X5_34 : Cond.methodLink RX5 34 arraycopyName ∈ wsA := wsA_3 137 rfl rfl
set_option maxRecDepth 20000 in
theorem ml_X9_74 : Cond.methodLink RX9 74 yX6_copyFrom ∈ wsA := wsA_3 138 rfl rfl
set_option maxRecDepth 20000 in
theorem ml_X6_23 : Cond.methodLink RX6 23 arraycopyName ∈ wsA := wsA_3 142 rfl rfl
set_option maxRecDepth 20000 in
theorem ml_X9_77 : Cond.methodLink RX9 77 yX2_copyFrom ∈ wsA := wsA_3 143 rfl rfl
set_option maxRecDepth 20000 in
theorem ml_X2_29 : Cond.methodLink RX2 29 arraycopyName ∈ wsA := wsA_3 147 rfl rfl
set_option maxRecDepth 20000 in
theorem ml_X9_80 : Cond.methodLink RX9 80 yX8_copyFrom ∈ wsA := wsA_3 148 rfl rfl
set_option maxRecDepth 20000 in
theorem ml_X8_37 : Cond.methodLink RX8 37 arraycopyName ∈ wsA := wsA_3 152 rfl rfl
set_option maxRecDepth 20000 in
theorem ml_L_107 : Cond.methodLink RL 107 yX10_again ∈ wsA := wsA_3 153 rfl rfl
set_option maxRecDepth 20000 in
theorem cl_L_10 : Cond.classLink RL 10 RX11 ∈ wsA := wsA_3 157 rfl rfl
set_option maxRecDepth 20000 in
theorem nw_L_10 : kNW RL 10 11 [.null, .null, .null, .null, .null, .null, .null, .null, .null] := ⟨RX11, TX11, 9, tyX11, rfl, in_X11, tyX11_ok, wsA_3 157 rfl rfl, wsA_3 158 rfl rfl, wsA_1 12 rfl rfl, fun j hj => by rcases (show j = 0 ∨ j = 1 ∨ j = 2 ∨ j = 3 ∨ j = 4 ∨ j = 5 ∨ j = 6 ∨ j = 7 ∨ j = 8 by omega) with rfl | rfl | rfl | rfl | rfl | rfl | rfl | rfl | rfl <;> rfl, rfl⟩
set_option maxRecDepth 20000 in
theorem ml_L_12 : Cond.methodLink RL 12 yX11_init ∈ wsA := wsA_3 159 rfl rfl
set_option maxRecDepth 20000 in
theorem ml_X11_1 : Cond.methodLink RX11 1 objectInit ∈ wsA := wsA_3 162 rfl rfl
set_option maxRecDepth 20000 in
theorem ml_L_17 : Cond.methodLink RL 17 yX11_bin ∈ wsA := wsA_3 191 rfl rfl
set_option maxRecDepth 20000 in
theorem ml_X11_38 : Cond.methodLink RX11 38 yX11_isIn ∈ wsA := wsA_3 195 rfl rfl
set_option maxRecDepth 20000 in
theorem ml_L_22 : Cond.methodLink RL 22 yX11_fill ∈ wsA := wsA_3 198 rfl rfl
set_option maxRecDepth 20000 in
theorem ml_X11_42 : Cond.methodLink RX11 42 yX11_isOf ∈ wsA := wsA_3 202 rfl rfl
set_option maxRecDepth 20000 in
theorem kc_X11_46 : Cond.constant RX11 46 (1000000) ∈ wsA := wsA_3 206 rfl rfl
set_option maxRecDepth 20000 in
theorem ml_L_27 : Cond.methodLink RL 27 yX11_lot ∈ wsA := wsA_3 207 rfl rfl
set_option maxRecDepth 20000 in
theorem kc_X11_47 : Cond.constant RX11 47 (100000) ∈ wsA := wsA_3 211 rfl rfl
set_option maxRecDepth 20000 in
theorem ml_L_32 : Cond.methodLink RL 32 yX11_rule ∈ wsA := wsA_3 212 rfl rfl
set_option maxRecDepth 20000 in
theorem ml_X11_48 : Cond.methodLink RX11 48 yX11_leastOf ∈ wsA := wsA_3 216 rfl rfl
set_option maxRecDepth 20000 in
theorem ml_X11_52 : Cond.methodLink RX11 52 yX11_mostOf ∈ wsA := wsA_3 219 rfl rfl
set_option maxRecDepth 20000 in
theorem ml_L_37 : Cond.methodLink RL 37 yX11_lay ∈ wsA := wsA_3 222 rfl rfl
set_option maxRecDepth 20000 in
theorem ml_X11_55 : Cond.methodLink RX11 55 yX11_glueLeft ∈ wsA := wsA_3 226 rfl rfl
set_option maxRecDepth 20000 in
theorem ml_X11_59 : Cond.methodLink RX11 59 yX11_takes ∈ wsA := wsA_3 230 rfl rfl
set_option maxRecDepth 20000 in
theorem ml_L_41 : Cond.methodLink RL 41 yX11_mat ∈ wsA := wsA_3 234 rfl rfl
set_option maxRecDepth 20000 in
theorem ml_L_45 : Cond.methodLink RL 45 yX11_recall ∈ wsA := wsA_3 238 rfl rfl
set_option maxRecDepth 20000 in
theorem ml_L_49 : Cond.methodLink RL 49 yX11_plate ∈ wsA := wsA_4 2 rfl rfl
set_option maxRecDepth 20000 in
theorem ml_L_53 : Cond.methodLink RL 53 yX11_time ∈ wsA := wsA_4 6 rfl rfl
set_option maxRecDepth 20000 in
theorem ml_X11_66 : Cond.methodLink RX11 66 yX11_cold ∈ wsA := wsA_4 10 rfl rfl
set_option maxRecDepth 20000 in
theorem ml_X11_69 : Cond.methodLink RX11 69 yX11_tick ∈ wsA := wsA_4 14 rfl rfl
set_option maxRecDepth 20000 in
theorem ml_X11_73 : Cond.methodLink RX11 73 yX11_mayOpen ∈ wsA := wsA_4 18 rfl rfl
set_option maxRecDepth 20000 in
theorem ml_X11_62 : Cond.methodLink RX11 62 yX11_steam ∈ wsA := wsA_4 22 rfl rfl
set_option maxRecDepth 20000 in
theorem ml_L_57 : Cond.methodLink RL 57 yX11_fastest ∈ wsA := wsA_4 26 rfl rfl
set_option maxRecDepth 20000 in
theorem ml_X11_77 : Cond.methodLink RX11 77 yX11_time ∈ wsA := wsA_4 30 rfl rfl
set_option maxRecDepth 20000 in
theorem ml_L_61 : Cond.methodLink RL 61 yX11_press ∈ wsA := wsA_4 31 rfl rfl
set_option maxRecDepth 20000 in
theorem ml_L_66 : Cond.methodLink RL 66 yX11_shell ∈ wsA := wsA_4 35 rfl rfl
set_option maxRecDepth 20000 in
theorem ml_L_71 : Cond.methodLink RL 71 yX11_link ∈ wsA := wsA_4 39 rfl rfl
set_option maxRecDepth 20000 in
theorem ml_L_76 : Cond.methodLink RL 76 yX11_state ∈ wsA := wsA_4 43 rfl rfl
set_option maxRecDepth 20000 in
theorem ml_L_81 : Cond.methodLink RL 81 yX11_badRow ∈ wsA := wsA_4 47 rfl rfl
set_option maxRecDepth 20000 in
theorem ml_X11_89 : Cond.methodLink RX11 89 yX11_distances ∈ wsA := wsA_4 51 rfl rfl
set_option maxRecDepth 20000 in
theorem ml_X11_86 : Cond.methodLink RX11 86 yX11_onward ∈ wsA := wsA_4 55 rfl rfl
set_option maxRecDepth 20000 in
theorem ml_X11_80 : Cond.methodLink RX11 80 yX11_next ∈ wsA := wsA_4 59 rfl rfl
set_option maxRecDepth 20000 in
theorem ml_X11_83 : Cond.methodLink RX11 83 yX11_isBad ∈ wsA := wsA_4 63 rfl rfl
set_option maxRecDepth 20000 in
theorem ml_L_85 : Cond.methodLink RL 85 yX11_bad ∈ wsA := wsA_4 67 rfl rfl
set_option maxRecDepth 20000 in
theorem ml_L_89 : Cond.methodLink RL 89 yX11_sheet ∈ wsA := wsA_4 71 rfl rfl
set_option maxRecDepth 20000 in
theorem ml_L_93 : Cond.methodLink RL 93 yX11_best ∈ wsA := wsA_4 75 rfl rfl
set_option maxRecDepth 20000 in
theorem ml_X11_103 : Cond.methodLink RX11 103 yX11_isBoard ∈ wsA := wsA_4 79 rfl rfl
set_option maxRecDepth 20000 in
theorem ml_X11_106 : Cond.methodLink RX11 106 yX11_reckons ∈ wsA := wsA_4 82 rfl rfl
set_option maxRecDepth 20000 in
theorem ml_X11_99 : Cond.methodLink RX11 99 yX11_settles ∈ wsA := wsA_4 86 rfl rfl
set_option maxRecDepth 20000 in
theorem ml_X11_92 : Cond.methodLink RX11 92 yX11_board ∈ wsA := wsA_4 90 rfl rfl
set_option maxRecDepth 20000 in
theorem ml_X11_95 : Cond.methodLink RX11 95 yX11_tries ∈ wsA := wsA_4 93 rfl rfl
set_option maxRecDepth 20000 in
theorem ml_L_97 : Cond.methodLink RL 97 yX11_cuts ∈ wsA := wsA_4 97 rfl rfl
set_option maxRecDepth 20000 in
theorem ml_X11_109 : Cond.methodLink RX11 109 yX11_comes ∈ wsA := wsA_4 101 rfl rfl
set_option maxRecDepth 20000 in
theorem ml_L_101 : Cond.methodLink RL 101 yX11_count ∈ wsA := wsA_4 105 rfl rfl
set_option maxRecDepth 20000 in
theorem ml_L_106 : Cond.methodLink RL 106 yX11_image ∈ wsA := wsA_4 109 rfl rfl
set_option maxRecDepth 20000 in
theorem ml_L_110 : Cond.methodLink RL 110 yX11_again ∈ wsA := wsA_4 113 rfl rfl
set_option maxRecDepth 20000 in
theorem oi_1 : Cond.instanceMethod objectInit ∈ wsA := wsA_1 21 rfl rfl
set_option maxRecDepth 20000 in
theorem oi_2 : Cond.code objectInit ⟨#[0xb1]⟩ 1 none ∈ wsA := wsA_1 22 rfl rfl
set_option maxRecDepth 20000 in
theorem ar_I : Cond.arrayClass .int ∈ wsA := wsA_1 49 rfl rfl
set_option maxRecDepth 20000 in
theorem ar_Z : Cond.arrayClass .boolean ∈ wsA := wsA_1 50 rfl rfl
set_option maxRecDepth 20000 in
theorem ac_1 : Cond.native arraycopyName ∈ wsA := wsA_2 167 rfl rfl
set_option maxRecDepth 20000 in
theorem ac_2 : Cond.static arraycopyName ∈ wsA := wsA_2 166 rfl rfl
set_option maxRecDepth 20000 in
theorem ac_3 : Cond.initialized "java/lang/System" ∈ wsA := wsA_1 14 rfl rfl
set_option maxRecDepth 20000 in
theorem mm_0 : Cond.initialized "java/lang/Math" ∈ wsA := wsA_1 13 rfl rfl
set_option maxRecDepth 20000 in
theorem mm_min1 : Cond.static Lib.Math.min.name ∈ wsA := wsA_2 108 rfl rfl
set_option maxRecDepth 20000 in
theorem mm_min2 : Cond.code Lib.Math.min.name Lib.Math.min.code 2 (some .int) ∈ wsA := wsA_2 109 rfl rfl
set_option maxRecDepth 20000 in
theorem mm_max1 : Cond.static Lib.Math.max.name ∈ wsA := wsA_3 7 rfl rfl
set_option maxRecDepth 20000 in
theorem mm_max2 : Cond.code Lib.Math.max.name Lib.Math.max.code 2 (some .int) ∈ wsA := wsA_3 8 rfl rfl
set_option maxRecDepth 20000 in
theorem zB01 {z : Int} (h : z = 0 ∨ z = 1) : narrow .boolean (.int (zI z)) = .int (zI z) := by
  rcases h with rfl | rfl <;> rfl
end
section
/-! numbers that both the class and the reference come to -/
def zS (f : Nat → Int) : Nat → Int
  | 0 => 0
  | n + 1 => zS f n + f n
theorem zS_cong {f g : Nat → Int} : ∀ {n : Nat}, (∀ j, j < n → f j = g j) → zS f n = zS g n
  | 0, _ => rfl
  | n + 1, h => by
    have h1 := zS_cong (n := n) (fun j hj => h j (by omega))
    have h2 := h n (by omega)
    show zS f n + f n = zS g n + g n
    rw [h1, h2]
theorem zS_lo {f : Nat → Int} {c : Int} : ∀ {n : Nat}, (∀ j, j < n → 0 ≤ f j ∧ f j ≤ c) → 0 ≤ zS f n ∧ zS f n ≤ n * c
  | 0, _ => by
    constructor
    · exact Int.le_refl 0
    · show (0 : Int) ≤ ((0 : Nat) : Int) * c
      simp
  | n + 1, h => by
    have h1 := zS_lo (n := n) (fun j hj => h j (by omega))
    have h2 := h n (by omega)
    have e : ((n + 1 : Nat) : Int) * c = (n : Int) * c + c := by
      rw [Int.natCast_add, Int.add_mul]
      simp
    have e2 : zS f (n + 1) = zS f n + f n := rfl
    rw [e, e2]
    omega
theorem zS_step {f : Nat → Int} {i : Int} (h : 0 ≤ i) : zS f (i + 1).toNat = zS f i.toNat + f i.toNat := by
  have e : (i + 1).toNat = i.toNat + 1 := by omega
  rw [e]
  rfl
theorem zU_ext {f g : Nat → Int} {i : Int} (h0 : 0 ≤ i) (h : ∀ j, j < i.toNat → f j = g j) : ∀ j, j < (i + 1).toNat → zU f i.toNat (g i.toNat) j = g j := by
  intro j hj
  by_cases e : j = i.toNat
  · subst e
    exact zU_s _ _ _
  · rw [zU_n _ _ e]
    exact h j (by omega)
theorem zU_eq {f : Nat → Int} {i : Int} {x : Int} {g : Nat → Int} (h0 : 0 ≤ i) (h : ∀ j, j < i.toNat → f j = g j) (hx : x = g i.toNat) : ∀ j, j < (i + 1).toNat → zU f i.toNat x j = g j := by
  subst hx
  exact zU_ext h0 h
/-! glue: what each lot gives -/
def dL (f : Nat → Int) (q : Int) : Nat → Int
  | 0 => q
  | l + 1 => dL f q l - (if f l < dL f q l then f l else dL f q l)
def dV (f : Nat → Int) (q : Int) (l : Nat) : Int := if f l < dL f q l then f l else dL f q l
def dB (f : Nat → Int) (q : Int) : Nat → Int
  | 0 => 0
  | l + 1 => if 0 < dV f q l then zOr (dB f q l) (zShl 1 l) else dB f q l
def dG (f : Nat → Int) (q : Int) (n : Nat) : Nat → Int := fun j => if j < n then f j - dV f q j else f j
theorem dL_nn {f : Nat → Int} {q : Int} (hq : 0 ≤ q) : ∀ {n : Nat}, (∀ j, j < n → 0 ≤ f j) → 0 ≤ dL f q n ∧ dL f q n ≤ q
  | 0, _ => ⟨hq, Int.le_refl q⟩
  | n + 1, h => by
    have h1 := dL_nn hq (n := n) (fun j hj => h j (by omega))
    have h2 := h n (by omega)
    show 0 ≤ dL f q n - (if f n < dL f q n then f n else dL f q n) ∧ dL f q n - (if f n < dL f q n then f n else dL f q n) ≤ q
    split <;> omega
theorem dB_R (f : Nat → Int) (q : Int) : ∀ n, zR (dB f q n)
  | 0 => zR_0
  | n + 1 => by
    show zR (if 0 < dV f q n then zOr (dB f q n) (zShl 1 n) else dB f q n)
    split
    · exact zOr_R _ _
    · exact dB_R f q n
theorem dG_0 (f : Nat → Int) (q : Int) : dG f q 0 = f := by
  funext j
  simp [dG]
theorem dG_s (f : Nat → Int) (q : Int) (n : Nat) : zU (dG f q n) n (f n - dV f q n) = dG f q (n + 1) := by
  funext j
  unfold zU dG
  by_cases e : j = n
  · subst e
    simp
  · rw [if_neg e]
    by_cases h : j < n
    · rw [if_pos h, if_pos (by omega)]
    · rw [if_neg h, if_neg (by omega)]
theorem dG_at (f : Nat → Int) (q : Int) (n : Nat) : dG f q n n = f n := by simp [dG]
theorem dG_z (f : Nat → Int) (q : Int) (n : Nat) (h : dV f q n = 0) : dG f q (n + 1) = dG f q n := by
  rw [← dG_s, h, Int.sub_zero]
  funext j
  unfold zU
  by_cases e : j = n
  · subst e
    rw [if_pos rfl, dG_at]
  · rw [if_neg e]
/-! bits -/
theorem zI_toIntR (x : Int32) : zI x.toInt = x := zI_self x
theorem zAnd_1 (a : Int) : zAnd a 1 = 0 ∨ zAnd a 1 = 1 := by
  unfold zAnd
  rw [zI_1]
  obtain ⟨j, hj, e⟩ := pk_andE (zI a) (m := 1) 1 (by decide)
  rw [e]
  have : j = 0 ∨ j = 1 := by omega
  rcases this with rfl | rfl
  · left; decide +kernel
  · right; decide +kernel
theorem zShl_0 (m : Int) : zShl 0 m = 0 := by
  unfold zShl
  rw [zI_0]
  have : (0 : Int32) <<< (zI m &&& 31) = 0 := by
    apply Int32.toBitVec_inj.mp
    simp
  rw [this]
  rfl
theorem zOr_0 {a : Int} (h : zR a) : zOr a 0 = a := by
  unfold zOr
  rw [zI_0]
  have : zI a ||| 0 = zI a := by
    apply Int32.toBitVec_inj.mp
    simp
  rw [this, zI_toInt h]
/-- which mats hold glue of a lot -/
def rB (F : Nat → Int) (lot : Int) : Nat → Int
  | 0 => 0
  | m + 1 => if zAnd (zShr (F (m * 8 + 6)) lot) 1 = 0 then rB F lot m else zOr (rB F lot m) (zShl 1 m)
theorem rB_R (F : Nat → Int) (lot : Int) : ∀ n, zR (rB F lot n)
  | 0 => zR_0
  | n + 1 => by
    show zR (if zAnd (zShr (F (n * 8 + 6)) lot) 1 = 0 then rB F lot n else zOr (rB F lot n) (zShl 1 n))
    split
    · exact rB_R F lot n
    · exact zOr_R _ _
theorem rB_or (F : Nat → Int) (lot : Int) (m : Nat) : zOr (rB F lot m) (zShl (zAnd (zShr (F (m * 8 + 6)) lot) 1) m) = rB F lot (m + 1) := by
  show _ = if zAnd (zShr (F (m * 8 + 6)) lot) 1 = 0 then rB F lot m else zOr (rB F lot m) (zShl 1 m)
  rcases zAnd_1 (zShr (F (m * 8 + 6)) lot) with h | h
  · rw [h, if_pos rfl, zShl_0, zOr_0 (rB_R F lot m)]
  · rw [h, if_neg (by omega)]
/-- how many mats were pressed -/
def pC (F : Nat → Int) (n : Nat) : Int := zS (fun m => if F (m * 8 + 7) = -1 then 0 else 1) n
/-- the dearest sheet that fits, of several the first -/
def dW (sv : Nat → Int) (k : Int) : Int := if k < 0 then 0 else sv k.toNat
def dI (sw sh sv : Nat → Int) (w h : Int) : Nat → Int
  | 0 => -1
  | n + 1 => if sw n ≤ w ∧ sh n ≤ h ∧ dW sv (dI sw sh sv w h n) < sv n then (n : Int) else dI sw sh sv w h n
theorem dI_lo (sw sh sv : Nat → Int) (w h : Int) : ∀ n, -1 ≤ dI sw sh sv w h n ∧ dI sw sh sv w h n < n
  | 0 => by
    have e : dI sw sh sv w h 0 = -1 := rfl
    rw [e]
    omega
  | n + 1 => by
    have ih := dI_lo sw sh sv w h n
    have e : dI sw sh sv w h (n + 1) = if sw n ≤ w ∧ sh n ≤ h ∧ dW sv (dI sw sh sv w h n) < sv n then (n : Int) else dI sw sh sv w h n := rfl
    rw [e]
    split <;> omega
theorem dI_step {sw sh sv : Nat → Int} {w h i : Int} (h0 : 0 ≤ i) : dI sw sh sv w h (i + 1).toNat = if sw i.toNat ≤ w ∧ sh i.toNat ≤ h ∧ dW sv (dI sw sh sv w h i.toNat) < sv i.toNat then i else dI sw sh sv w h i.toNat := by
  have e : (i + 1).toNat = i.toNat + 1 := by omega
  rw [e]
  have e2 : dI sw sh sv w h (i.toNat + 1) = if sw i.toNat ≤ w ∧ sh i.toNat ≤ h ∧ dW sv (dI sw sh sv w h i.toNat) < sv i.toNat then (i.toNat : Int) else dI sw sh sv w h i.toNat := rfl
  rw [e2]
  have e3 : (i.toNat : Int) = i := by omega
  rw [e3]
theorem rB_step {F : Nat → Int} {lot i : Int} (h0 : 0 ≤ i) : rB F lot (i + 1).toNat = if zAnd (zShr (F (i.toNat * 8 + 6)) lot) 1 = 0 then rB F lot i.toNat else zOr (rB F lot i.toNat) (zShl 1 i) := by
  have e : (i + 1).toNat = i.toNat + 1 := by omega
  rw [e]
  have e3 : (i.toNat : Int) = i := by omega
  have e2 : rB F lot (i.toNat + 1) = if zAnd (zShr (F (i.toNat * 8 + 6)) lot) 1 = 0 then rB F lot i.toNat else zOr (rB F lot i.toNat) (zShl 1 (i.toNat : Int)) := rfl
  rw [e2, e3]
theorem dL_step {f : Nat → Int} {q i : Int} (h0 : 0 ≤ i) : dL f q (i + 1).toNat = dL f q i.toNat - dV f q i.toNat := by
  have e : (i + 1).toNat = i.toNat + 1 := by omega
  rw [e]
  rfl
theorem dB_step {f : Nat → Int} {q i : Int} (h0 : 0 ≤ i) : dB f q (i + 1).toNat = if 0 < dV f q i.toNat then zOr (dB f q i.toNat) (zShl 1 i) else dB f q i.toNat := by
  have e : (i + 1).toNat = i.toNat + 1 := by omega
  rw [e]
  have e3 : (i.toNat : Int) = i := by omega
  have e2 : dB f q (i.toNat + 1) = if 0 < dV f q i.toNat then zOr (dB f q i.toNat) (zShl 1 (i.toNat : Int)) else dB f q i.toNat := rfl
  rw [e2, e3]
theorem dG_step {f : Nat → Int} {q i : Int} (h0 : 0 ≤ i) : dG f q (i + 1).toNat = zU (dG f q i.toNat) i.toNat (f i.toNat - dV f q i.toNat) := by
  have e : (i + 1).toNat = i.toNat + 1 := by omega
  rw [e, dG_s]
theorem dG_stepz {f : Nat → Int} {q i : Int} (h0 : 0 ≤ i) (h : dV f q i.toNat = 0) : dG f q (i + 1).toNat = dG f q i.toNat := by
  have e : (i + 1).toNat = i.toNat + 1 := by omega
  rw [e, dG_z f q _ h]
end
section
/-! the press: heats and cures, tick by tick -/
theorem z_top {M : KM} {E : KE} {nL cells slots : Nat} {ws : va_W} {lv : List (Nat × Value)} {pc : Nat} {st : List Value} {v : Int} (k : ∀ y : Int, y = v → kV M E nL cells slots ws lv pc (.int (zI y) :: st)) : kV M E nL cells slots ws lv pc (.int (zI v) :: st) := k v rfl
/-- the heats of nine shells with the plate on both sides -/
def hx (P : Int) (f : Nat → Int) : Nat → Int := fun j => if 1 ≤ j ∧ j ≤ 9 then f (j - 1) else P
theorem hx_s {P : Int} {f : Nat → Int} {k : Nat} (hk : k < 9) : hx P f (k + 1) = f k := by
  unfold hx
  rw [if_pos ⟨by omega, by omega⟩]
  rfl
theorem hx_b {P : Int} {f : Nat → Int} (hP : 0 ≤ P ∧ P ≤ 25000) (hf : ∀ j, j < 9 → 0 ≤ f j ∧ f j ≤ 25000) : ∀ j, j < 11 → 0 ≤ hx P f j ∧ hx P f j ≤ 25000 := by
  intro j hj
  unfold hx
  split
  · exact hf _ (by omega)
  · exact hP
def tkH (P : Int) (f : Nat → Int) (s : Nat) : Int := hx P f (s + 1) + Int.tdiv (hx P f s + hx P f (s + 2) - 2 * hx P f (s + 1)) 8
def tkC (x : Int) : Int := if 8000 < x then (x - 8000) / 100 else 0
theorem td8 (x : Int) : (0 ≤ x → 0 ≤ Int.tdiv x 8 ∧ Int.tdiv x 8 * 8 ≤ x) ∧ (x ≤ 0 → x ≤ Int.tdiv x 8 * 8 ∧ Int.tdiv x 8 ≤ 0) := by
  constructor
  · intro h
    rw [Int.tdiv_eq_ediv_of_nonneg h]
    omega
  · intro h
    have e : Int.tdiv x 8 = -(Int.tdiv (-x) 8) := by rw [Int.neg_tdiv, Int.neg_neg]
    rw [e, Int.tdiv_eq_ediv_of_nonneg (by omega)]
    omega
theorem tkH_b {P : Int} {f : Nat → Int} {s : Nat} (h : ∀ j, j < 11 → 0 ≤ hx P f j ∧ hx P f j ≤ 25000) (hs : s < 9) : 0 ≤ tkH P f s ∧ tkH P f s ≤ 25000 := by
  have h1 := h s (by omega)
  have h2 := h (s + 1) (by omega)
  have h3 := h (s + 2) (by omega)
  unfold tkH
  have t := td8 (hx P f s + hx P f (s + 2) - 2 * hx P f (s + 1))
  generalize Int.tdiv (hx P f s + hx P f (s + 2) - 2 * hx P f (s + 1)) 8 = q at t ⊢
  by_cases c : 0 ≤ hx P f s + hx P f (s + 2) - 2 * hx P f (s + 1)
  · have := t.1 c
    omega
  · have := t.2 (by omega)
    omega
/-- the heats and cures of a mat after t ticks by a plate of P hundredths -/
def sH (P : Int) : Nat → Nat → Int
  | 0 => fun _ => 2000
  | t + 1 => tkH P (sH P t)
def sC (P : Int) : Nat → Nat → Int
  | 0 => fun _ => 0
  | t + 1 => fun s => sC P t s + tkC (sH P (t + 1) s)
theorem sH_b {P : Int} (hP : 0 ≤ P ∧ P ≤ 25000) : ∀ (t j : Nat), j < 9 → 0 ≤ sH P t j ∧ sH P t j ≤ 25000
  | 0, j, _ => by
    show 0 ≤ (2000 : Int) ∧ (2000 : Int) ≤ 25000
    omega
  | t + 1, j, hj => tkH_b (hx_b hP (sH_b hP t)) hj
theorem tkC_b {x : Int} (h : x ≤ 25000) : 0 ≤ tkC x ∧ tkC x ≤ 170 := by
  unfold tkC
  split <;> omega
theorem sC_b {P : Int} (hP : 0 ≤ P ∧ P ≤ 25000) : ∀ (t j : Nat), j < 9 → 0 ≤ sC P t j ∧ sC P t j ≤ 170 * t
  | 0, j, _ => by
    show 0 ≤ (0 : Int) ∧ (0 : Int) ≤ 170 * ((0 : Nat) : Int)
    omega
  | t + 1, j, hj => by
    have h1 := sC_b hP t j hj
    have h2 := tkC_b (sH_b hP (t + 1) j hj).2
    have e : sC P (t + 1) j = sC P t j + tkC (sH P (t + 1) j) := rfl
    rw [e]
    omega
def stm (x d : Int) : Int := if 10000 < x then (x - 10000) * d / 100 else 0
theorem stm_b {x d : Int} (hx : x ≤ 25000) (hd : 0 ≤ d ∧ d ≤ 20) : 0 ≤ stm x d ∧ stm x d ≤ 3000 := by
  unfold stm
  split
  · have h1 : 0 ≤ (x - 10000) * d := Int.mul_nonneg (by omega) hd.1
    have h2 : (x - 10000) * d ≤ 15000 * 20 := Int.mul_le_mul (by omega) hd.2 hd.1 (by omega)
    omega
  · omega
/-- it may be opened -/
def opn (h c : Nat → Int) (need d : Int) : Prop := ∀ s, s < 9 → need ≤ c s ∧ stm (h s) d ≤ c s
/-- how the heats stand in the middle of a tick -/
def hm (P : Int) (f : Nat → Int) (i : Nat) : Nat → Int := fun j => if 1 ≤ j ∧ j ≤ i then tkH P f (j - 1) else hx P f j
theorem hm_0 (P : Int) (f : Nat → Int) : hm P f 0 = hx P f := by
  funext j
  unfold hm
  rw [if_neg (by omega)]
theorem hm_s (P : Int) (f : Nat → Int) (i : Nat) : zU (hm P f i) (i + 1) (tkH P f i) = hm P f (i + 1) := by
  funext j
  unfold zU hm
  by_cases e : j = i + 1
  · subst e
    rw [if_pos rfl, if_pos (by omega)]
    rfl
  · rw [if_neg e]
    by_cases c : 1 ≤ j ∧ j ≤ i
    · rw [if_pos c, if_pos (by omega)]
    · rw [if_neg c, if_neg (by omega)]
theorem hm_9 (P : Int) (f : Nat → Int) : hm P f 9 = hx P (tkH P f) := by
  funext j
  unfold hm
  by_cases c : 1 ≤ j ∧ j ≤ 9
  · rw [if_pos c]
    unfold hx
    rw [if_pos c]
  · rw [if_neg c]
    unfold hx
    rw [if_neg c, if_neg c]
theorem hm_step {P : Int} {f : Nat → Int} {i : Int} (h0 : 0 ≤ i) : hm P f (i + 1).toNat = zU (hm P f i.toNat) (i.toNat + 1) (tkH P f i.toNat) := by
  have e : (i + 1).toNat = i.toNat + 1 := by omega
  rw [e, hm_s]
end
section
/-! rows of events: reaching a bad spot, the least shortest row; a search breadth first finds it; a table of distances finds it too -/
def rch (nx : Nat → Nat → Nat) (bd : Nat → Prop) : Nat → Nat → Prop
  | 0, v => bd v
  | m + 1, v => ∃ e, e < 4 ∧ rch nx bd m (nx v e)
def pth (nx : Nat → Nat → Nat) (ev : Nat → Nat) : Nat → Nat
  | 0 => 0
  | i + 1 => nx (pth nx ev i) (ev i)
/-- the least of the shortest rows has L events, ev -/
def isRow (nx : Nat → Nat → Nat) (bd : Nat → Prop) (L : Nat) (ev : Nat → Nat) : Prop :=
  1 ≤ L ∧ (∀ i, i < L → ev i < 4) ∧ bd (pth nx ev L) ∧ (∀ m, 1 ≤ m → m < L → ¬ rch nx bd m 0) ∧ ∀ i e, i < L → e < ev i → ¬ rch nx bd (L - 1 - i) (nx (pth nx ev i) e)
def noRow (nx : Nat → Nat → Nat) (bd : Nat → Prop) : Prop := ∀ m, 1 ≤ m → ¬ rch nx bd m 0
theorem pth_rch {nx : Nat → Nat → Nat} {bd : Nat → Prop} {L : Nat} {ev : Nat → Nat} (h4 : ∀ i, i < L → ev i < 4) (hb : bd (pth nx ev L)) : ∀ j, j ≤ L → rch nx bd j (pth nx ev (L - j))
  | 0, _ => hb
  | j + 1, h => by
    refine ⟨ev (L - (j + 1)), h4 _ (by omega), ?_⟩
    have e : nx (pth nx ev (L - (j + 1))) (ev (L - (j + 1))) = pth nx ev (L - j) := by
      rw [show L - j = (L - (j + 1)) + 1 by omega]
      rfl
    rw [e]
    exact pth_rch h4 hb j (by omega)
theorem isRow_rch {nx : Nat → Nat → Nat} {bd : Nat → Prop} {L : Nat} {ev : Nat → Nat} (h : isRow nx bd L ev) : rch nx bd L 0 := by
  have := pth_rch h.2.1 h.2.2.1 L (Nat.le_refl L)
  rw [Nat.sub_self] at this
  exact this
theorem isRow_len {nx : Nat → Nat → Nat} {bd : Nat → Prop} {L L' : Nat} {ev ev' : Nat → Nat} (h : isRow nx bd L ev) (h' : isRow nx bd L' ev') : L = L' := by
  rcases Nat.lt_trichotomy L L' with c | c | c
  · exact absurd (isRow_rch h) (h'.2.2.2.1 L h.1 c)
  · exact c
  · exact absurd (isRow_rch h') (h.2.2.2.1 L' h'.1 c)
theorem isRow_ev {nx : Nat → Nat → Nat} {bd : Nat → Prop} {L : Nat} {ev ev' : Nat → Nat} (h : isRow nx bd L ev) (h' : isRow nx bd L ev') : ∀ i, i ≤ L → pth nx ev i = pth nx ev' i ∧ (i < L → ev i = ev' i) := by
  have key : ∀ {ev ev' : Nat → Nat}, isRow nx bd L ev → isRow nx bd L ev' → ∀ i, i < L → pth nx ev i = pth nx ev' i → ¬ ev i < ev' i := by
    intro ev ev' h h' i hi hp hlt
    refine h'.2.2.2.2 i (ev i) hi hlt ?_
    have := pth_rch h.2.1 h.2.2.1 (L - 1 - i) (by omega)
    rw [show L - (L - 1 - i) = i + 1 by omega] at this
    rw [← hp]
    exact this
  intro i
  induction i with
  | zero =>
    intro hi
    refine ⟨rfl, fun h0 => ?_⟩
    have a := key h h' 0 h0 rfl
    have b := key h' h 0 h0 rfl
    omega
  | succ i ih =>
    intro hi
    obtain ⟨p1, e1⟩ := ih (by omega)
    have hp : pth nx ev (i + 1) = pth nx ev' (i + 1) := by
      show nx (pth nx ev i) (ev i) = nx (pth nx ev' i) (ev' i)
      rw [p1, e1 (by omega)]
    refine ⟨hp, fun h0 => ?_⟩
    have a := key h h' (i + 1) h0 hp
    have b := key h' h (i + 1) h0 hp.symm
    omega
theorem isRow_no {nx : Nat → Nat → Nat} {bd : Nat → Prop} {L : Nat} {ev : Nat → Nat} (h : isRow nx bd L ev) (h' : noRow nx bd) : False := h' L h.1 (isRow_rch h)
/-! the search: n spots in the queue, K pairs (place, event) tried -/
def nU (f : Nat → Nat) (k x : Nat) : Nat → Nat := fun j => if j = k then x else f j
theorem nU_s (f : Nat → Nat) (k x : Nat) : nU f k x k = x := if_pos rfl
theorem nU_n (f : Nat → Nat) {k j : Nat} (x : Nat) (h : j ≠ k) : nU f k x j = f j := if_neg h
def BI (nx : Nat → Nat → Nat) (bd : Nat → Prop) (n : Nat) (qn fn bn dp : Nat → Nat) (K : Nat) : Prop :=
  (1 ≤ n ∧ qn 0 = 0 ∧ dp 0 = 0 ∧ ∀ c, c < n → qn c < 32) ∧ (∀ c c', c < n → c' < n → qn c = qn c' → c = c') ∧
  (∀ c, 1 ≤ c → c < n → fn c < c ∧ bn c < 4 ∧ qn c = nx (qn (fn c)) (bn c) ∧ dp c = dp (fn c) + 1 ∧ 4 * fn c + bn c < K) ∧
  (∀ c c', 1 ≤ c → c < c' → c' < n → 4 * fn c + bn c < 4 * fn c' + bn c') ∧
  (∀ p e, e < 4 → 4 * p + e < K → p < n ∧ ¬ bd (nx (qn p) e) ∧ ∃ c, c < n ∧ qn c = nx (qn p) e ∧ (c = 0 ∨ 4 * fn c + bn c ≤ 4 * p + e))
theorem BI_0 {nx : Nat → Nat → Nat} {bd : Nat → Prop} {qn fn bn dp : Nat → Nat} (h0 : qn 0 = 0) (h1 : dp 0 = 0) : BI nx bd 1 qn fn bn dp 0 :=
  ⟨⟨Nat.le_refl 1, h0, h1, fun c hc => by rw [show c = 0 by omega, h0]; omega⟩, fun c c' hc hc' _ => by omega, fun c h1 h2 => by omega, fun c c' h1 h2 h3 => by omega, fun p e _ h => by omega⟩
theorem BI_old {nx : Nat → Nat → Nat} {bd : Nat → Prop} {n : Nat} {qn fn bn dp : Nat → Nat} {P b : Nat} (h : BI nx bd n qn fn bn dp (4 * P + b)) (hP : P < n) (hb : b < 4) (hnb : ¬ bd (nx (qn P) b)) (hold : ∃ c, c < n ∧ qn c = nx (qn P) b) : BI nx bd n qn fn bn dp (4 * P + b + 1) := by
  obtain ⟨h1, h2, h3, h4, h5⟩ := h
  refine ⟨h1, h2, fun c c1 c2 => ?_, h4, fun p e he hk => ?_⟩
  · obtain ⟨a1, a2, a3, a4, a5⟩ := h3 c c1 c2
    exact ⟨a1, a2, a3, a4, by omega⟩
  · by_cases c : 4 * p + e < 4 * P + b
    · exact h5 p e he c
    · have e1 : p = P := by omega
      have e2 : e = b := by omega
      subst e1; subst e2
      obtain ⟨c, k1, k2⟩ := hold
      refine ⟨hP, hnb, c, k1, k2, ?_⟩
      by_cases c0 : c = 0
      · exact Or.inl c0
      · have := (h3 c (by omega) k1).2.2.2.2
        exact Or.inr (by omega)
theorem BI_new {nx : Nat → Nat → Nat} {bd : Nat → Prop} {n : Nat} {qn fn bn dp : Nat → Nat} {P b : Nat} (h : BI nx bd n qn fn bn dp (4 * P + b)) (hP : P < n) (hb : b < 4) (hv : nx (qn P) b < 32) (hnb : ¬ bd (nx (qn P) b)) (hnew : ∀ c, c < n → qn c ≠ nx (qn P) b) : BI nx bd (n + 1) (nU qn n (nx (qn P) b)) (nU fn n P) (nU bn n b) (nU dp n (dp P + 1)) (4 * P + b + 1) := by
  obtain ⟨⟨g1, g2, g3, g4⟩, h2, h3, h4, h5⟩ := h
  refine ⟨⟨by omega, by rw [nU_n _ _ (by omega)]; exact g2, by rw [nU_n _ _ (by omega)]; exact g3, fun c hc => ?_⟩, fun c c' hc hc' he => ?_, fun c c1 c2 => ?_, fun c c' c1 c2 c3 => ?_, fun p e he hk => ?_⟩
  · by_cases e : c = n
    · rw [e, nU_s]; exact hv
    · rw [nU_n _ _ e]; exact g4 c (by omega)
  · by_cases e : c = n <;> by_cases e' : c' = n
    · omega
    · rw [e, nU_s, nU_n _ _ e'] at he
      exact absurd he.symm (hnew c' (by omega))
    · rw [e', nU_s, nU_n _ _ e] at he
      exact absurd he (hnew c (by omega))
    · rw [nU_n _ _ e, nU_n _ _ e'] at he
      exact h2 c c' (by omega) (by omega) he
  · by_cases e : c = n
    · subst e
      rw [nU_s, nU_s, nU_s, nU_s, nU_n _ _ (by omega), nU_n _ _ (by omega)]
      exact ⟨hP, hb, rfl, rfl, by omega⟩
    · obtain ⟨a1, a2, a3, a4, a5⟩ := h3 c c1 (by omega)
      rw [nU_n _ _ e, nU_n _ _ e, nU_n _ _ e, nU_n _ _ e, nU_n _ _ (by omega), nU_n _ _ (by omega)]
      exact ⟨a1, a2, a3, a4, by omega⟩
  · by_cases e' : c' = n
    · subst e'
      rw [nU_s, nU_s, nU_n _ _ (by omega), nU_n _ _ (by omega)]
      exact (h3 c c1 (by omega)).2.2.2.2
    · rw [nU_n _ _ e', nU_n _ _ e', nU_n _ _ (by omega), nU_n _ _ (by omega)]
      exact h4 c c' c1 c2 (by omega)
  · by_cases c : 4 * p + e < 4 * P + b
    · obtain ⟨b1, b2, c, b3, b4, b5⟩ := h5 p e he c
      rw [nU_n _ _ (show p ≠ n by omega)]
      refine ⟨by omega, b2, c, by omega, by rw [nU_n _ _ (by omega)]; exact b4, ?_⟩
      rw [nU_n _ _ (show c ≠ n by omega), nU_n _ _ (show c ≠ n by omega)]
      exact b5
    · have e1 : p = P := by omega
      have e2 : e = b := by omega
      subst e1; subst e2
      rw [nU_n _ _ (show p ≠ n by omega)]
      refine ⟨by omega, hnb, n, by omega, nU_s _ _ _, Or.inr ?_⟩
      rw [nU_s, nU_s]
      omega
/-- a bad spot is never an old one -/
theorem BI_fresh {nx : Nat → Nat → Nat} {bd : Nat → Prop} {n : Nat} {qn fn bn dp : Nat → Nat} {K : Nat} (h : BI nx bd n qn fn bn dp K) (h0 : ¬ bd 0) : ∀ c, c < n → ¬ bd (qn c) := by
  obtain ⟨⟨g1, g2, g3, g4⟩, h2, h3, h4, h5⟩ := h
  intro c hc
  by_cases c0 : c = 0
  · rw [c0, g2]; exact h0
  · obtain ⟨a1, a2, a3, a4, a5⟩ := h3 c (by omega) hc
    rw [a3]
    exact (h5 _ _ a2 a5).2.1
theorem BI_end {nx : Nat → Nat → Nat} {bd : Nat → Prop} {n : Nat} {qn fn bn dp : Nat → Nat} (h : BI nx bd n qn fn bn dp (4 * n)) : noRow nx bd := by
  obtain ⟨⟨g1, g2, g3, g4⟩, h2, h3, h4, h5⟩ := h
  have key : ∀ m c, c < n → ¬ rch nx bd (m + 1) (qn c) := by
    intro m
    induction m with
    | zero =>
      intro c hc ⟨e, he, hr⟩
      exact (h5 c e he (by omega)).2.1 hr
    | succ m ih =>
      intro c hc ⟨e, he, hr⟩
      obtain ⟨b1, b2, c', b3, b4, b5⟩ := h5 c e he (by omega)
      rw [← b4] at hr
      exact ih c' b3 hr
  intro m hm
  have := key (m - 1) 0 (by omega)
  rw [g2, show m - 1 + 1 = m by omega] at this
  exact this
/-- the chain of places back to the first one -/
def anc (fn : Nat → Nat) (a : Nat) : Nat → Nat
  | 0 => a
  | j + 1 => fn (anc fn a j)
/-- found: place n was reached last, and its spot is bad -/
theorem BI_found {nx : Nat → Nat → Nat} {bd : Nat → Prop} {n : Nat} {qn fn bn dp : Nat → Nat} (hn : 1 ≤ n) (q0 : qn 0 = 0) (d0 : dp 0 = 0) (h3 : ∀ c, 1 ≤ c → c ≤ n → fn c < c ∧ bn c < 4 ∧ qn c = nx (qn (fn c)) (bn c) ∧ dp c = dp (fn c) + 1)
    (h4 : ∀ c c', 1 ≤ c → c < c' → c' ≤ n → 4 * fn c + bn c < 4 * fn c' + bn c')
    (h5 : ∀ p e, e < 4 → 4 * p + e < 4 * fn n + bn n → ¬ bd (nx (qn p) e) ∧ ∃ c, c ≤ n ∧ qn c = nx (qn p) e ∧ (c = 0 ∨ 4 * fn c + bn c ≤ 4 * p + e)) (hb : bd (qn n)) :
    isRow nx bd (dp n) (fun i => bn (anc fn n (dp n - 1 - i))) ∧ anc fn n (dp n) = 0 ∧ ∀ j, j < dp n → 1 ≤ anc fn n j ∧ anc fn n j ≤ n := by
  have ha : ∀ j, j ≤ dp n → dp (anc fn n j) + j = dp n ∧ anc fn n j ≤ n := by
    intro j
    induction j with
    | zero => intro _; exact ⟨rfl, Nat.le_refl n⟩
    | succ j ih =>
      intro hj
      obtain ⟨i1, i2⟩ := ih (by omega)
      have c0 : 1 ≤ anc fn n j := by
        rcases Nat.eq_zero_or_pos (anc fn n j) with e | e
        · rw [e, d0] at i1; omega
        · exact e
      obtain ⟨a1, a2, a3, a4⟩ := h3 _ c0 i2
      show dp (fn (anc fn n j)) + (j + 1) = dp n ∧ fn (anc fn n j) ≤ n
      omega
  have hpos : ∀ j, j < dp n → 1 ≤ anc fn n j := by
    intro j hj
    rcases Nat.eq_zero_or_pos (anc fn n j) with e | e
    · have := (ha j (by omega)).1
      rw [e, d0] at this
      omega
    · exact e
  have hend : anc fn n (dp n) = 0 := by
    obtain ⟨i1, i2⟩ := ha (dp n) (Nat.le_refl _)
    rcases Nat.eq_zero_or_pos (anc fn n (dp n)) with e | e
    · exact e
    · have := (h3 _ e i2).2.2.2
      omega
  have hmono : ∀ c' c, c ≤ c' → c' ≤ n → dp c ≤ dp c' := by
    intro c'
    induction c' using Nat.strongRecOn with
    | ind c' ih =>
      intro c h1 h2
      rcases Nat.eq_zero_or_pos c with e | e
      · rw [e, d0]; omega
      · rcases Nat.eq_or_lt_of_le h1 with e2 | e2
        · rw [e2]; exact Nat.le_refl _
        · obtain ⟨a1, a2, a3, a4⟩ := h3 c e (by omega)
          obtain ⟨b1, b2, b3, b4⟩ := h3 c' (by omega) h2
          have hk := h4 c c' e e2 h2
          have := ih (fn c') b1 (fn c) (by omega) (by omega)
          omega
  obtain ⟨f1, f2, f3, f4⟩ := h3 n hn (Nat.le_refl n)
  have hA : ∀ m c, c ≤ n → dp c + (m + 1) < dp n → ¬ rch nx bd (m + 1) (qn c) := by
    intro m
    induction m with
    | zero =>
      intro c hc hd ⟨e, he, hr⟩
      have hlt : c < fn n := by
        rcases Nat.lt_or_ge c (fn n) with q | q
        · exact q
        · have := hmono c (fn n) q hc; omega
      exact (h5 c e he (by omega)).1 hr
    | succ m ih =>
      intro c hc hd ⟨e, he, hr⟩
      have hlt : c < fn n := by
        rcases Nat.lt_or_ge c (fn n) with q | q
        · exact q
        · have := hmono c (fn n) q hc; omega
      obtain ⟨b2, c', b3, b4, b5⟩ := h5 c e he (by omega)
      rw [← b4] at hr
      refine ih c' b3 ?_ hr
      rcases Nat.eq_zero_or_pos c' with e0 | e0
      · rw [e0, d0]; omega
      · obtain ⟨a1, a2, a3, a4⟩ := h3 c' e0 b3
        have hk : fn c' ≤ c := by
          rcases b5 with b5 | b5 <;> omega
        have := hmono c (fn c') hk hc
        omega
  have hB : ∀ t c, 1 ≤ t → t ≤ dp n → c < anc fn n t → ¬ rch nx bd t (qn c) := by
    intro t
    induction t with
    | zero => intro c h1; omega
    | succ t ih =>
      intro c h1 ht hc ⟨e, he, hr⟩
      have hct : c < fn (anc fn n t) := hc
      obtain ⟨i1, i2⟩ := ha t (by omega)
      have p1 := hpos t (by omega)
      have hkn : 4 * fn (anc fn n t) + bn (anc fn n t) ≤ 4 * fn n + bn n := by
        rcases Nat.eq_or_lt_of_le i2 with q | q
        · rw [q]; exact Nat.le_refl _
        · exact Nat.le_of_lt (h4 _ _ p1 q (Nat.le_refl n))
      obtain ⟨b2, c', b3, b4, b5⟩ := h5 c e he (by omega)
      rcases Nat.eq_zero_or_pos t with t0 | t0
      · subst t0; exact b2 hr
      · rw [← b4] at hr
        refine ih c' t0 (by omega) ?_ hr
        rcases Nat.lt_or_ge c' (anc fn n t) with q | q
        · exact q
        · exfalso
          rcases b5 with b5 | b5
          · omega
          · rcases Nat.eq_or_lt_of_le q with q | q
            · rw [← q] at b5; omega
            · have := h4 _ _ p1 q b3; omega
  have hP : ∀ i, i ≤ dp n → pth nx (fun i => bn (anc fn n (dp n - 1 - i))) i = qn (anc fn n (dp n - i)) := by
    intro i
    induction i with
    | zero => intro _; rw [Nat.sub_zero, hend, q0]; rfl
    | succ i ih =>
      intro hi
      show nx (pth nx (fun i => bn (anc fn n (dp n - 1 - i))) i) (bn (anc fn n (dp n - 1 - i))) = _
      rw [ih (by omega)]
      have e : dp n - i = (dp n - 1 - i) + 1 := by omega
      have e2 : dp n - (i + 1) = dp n - 1 - i := by omega
      rw [e, e2]
      obtain ⟨i1, i2⟩ := ha (dp n - 1 - i) (by omega)
      exact ((h3 _ (hpos _ (by omega)) i2).2.2.1).symm
  refine ⟨⟨by omega, fun i hi => ?_, ?_, fun m h1 h2 => ?_, fun i e hi he => ?_⟩, hend, fun j hj => ⟨hpos j hj, (ha j (by omega)).2⟩⟩
  · exact (h3 _ (hpos _ (by omega)) (ha _ (by omega)).2).2.1
  · rw [hP _ (Nat.le_refl _), Nat.sub_self]; exact hb
  · have := hA (m - 1) 0 (by omega) (by omega)
    rw [q0, show m - 1 + 1 = m by omega] at this
    exact this
  · rw [hP i (by omega)]
    have e1 : dp n - i = (dp n - 1 - i) + 1 := by omega
    obtain ⟨i1, i2⟩ := ha (dp n - 1 - i) (by omega)
    have p1 := hpos (dp n - 1 - i) (by omega)
    have hkn : 4 * fn (anc fn n (dp n - 1 - i)) + bn (anc fn n (dp n - 1 - i)) ≤ 4 * fn n + bn n := by
      rcases Nat.eq_or_lt_of_le i2 with q | q
      · rw [q]; exact Nat.le_refl _
      · exact Nat.le_of_lt (h4 _ _ p1 q (Nat.le_refl n))
    have hb4 := (h3 _ p1 i2).2.1
    have he' : e < bn (anc fn n (dp n - 1 - i)) := he
    rw [e1]
    show ¬ rch nx bd (dp n - 1 - i) (nx (qn (fn (anc fn n (dp n - 1 - i)))) e)
    obtain ⟨b2, c', b3, b4, b5⟩ := h5 (fn (anc fn n (dp n - 1 - i))) e (by omega) (by omega)
    rcases Nat.eq_zero_or_pos (dp n - 1 - i) with t0 | t0
    · rw [t0] at b2 ⊢
      exact b2
    · rw [← b4]
      refine hB _ c' t0 (by omega) ?_
      rcases Nat.lt_or_ge c' (anc fn n (dp n - 1 - i)) with q | q
      · exact q
      · exfalso
        rcases b5 with b5 | b5
        · omega
        · rcases Nat.eq_or_lt_of_le q with q | q
          · rw [← q] at b5; omega
          · have := h4 _ _ p1 q b3; omega
end
section
set_option maxHeartbeats 4000000 in
set_option maxRecDepth 100000 in
theorem c_B_has (M : KM) (h g dm us n : Nat) (fg fd fu : Nat → Int) (b : Int) (hn : n ≤ 6) (hb : zR b) : kCI M yX0_has cX0_has 2 .boolean 0 0 0 [cO 0 h [.int (zI (n : Int)), .ref g, .ref dm, .ref us], cI M g 6 fg, cI M dm 6 fd, cZ M us 6 fu] [.ref h, .int (zI b)] (fun z (u : Unit) => (z = 1 ∧ 0 ≤ b ∧ b < n) ∨ (z = 0 ∧ (b < 0 ∨ (n : Int) ≤ b))) (fun u => [cO 0 h [.int (zI (n : Int)), .ref g, .ref dm, .ref us], cI M g 6 fg, cI M dm 6 fd, cZ M us 6 fu]) := by
  refine kCI.of [(0, .ref h), (1, .int (zI b))] (by decide) (Nat.le_of_ble_eq_true rfl) rfl (fun E gg hret => ?_)
  have hb1 := hb.1
  have hb2 := hb.2
  refine z_iload_n (pc := 0) 1 gg dX0_has_0 rfl rfl ?_
  refine z_if_lt (pc := 1) 16 gg dX0_has_1 (by decide) ⟨by omega, by omega⟩ (fun h1 => ?_) (fun h1 => ?_)
  · refine z_iconst (pc := 16) gg dX0_has_16 ?_
    exact hret 0 () 17 _ _ _ (Nat.le_of_ble_eq_true rfl) (Nat.le_of_ble_eq_true rfl) dX0_has_17 (zB01 (by omega)) (by omega)
  · refine z_iload_n (pc := 4) 1 gg dX0_has_4 rfl rfl ?_
    refine z_aload_n (pc := 5) 0 gg dX0_has_5 rfl rfl ?_
    refine z_get (pc := 6) 0 gg fl_X0_9 dX0_has_6 rfl rfl ?_
    refine z_icmp_ge (pc := 9) 16 gg dX0_has_9 (by decide) ⟨by omega, by omega⟩ ⟨by omega, by omega⟩ (fun h9 => ?_) (fun h9 => ?_)
    · refine z_iconst (pc := 16) gg dX0_has_16 ?_
      exact hret 0 () 17 _ _ _ (Nat.le_of_ble_eq_true rfl) (Nat.le_of_ble_eq_true rfl) dX0_has_17 (zB01 (by omega)) (by omega)
    · refine z_iconst (pc := 12) gg dX0_has_12 ?_
      refine z_goto (pc := 13) 17 gg dX0_has_13 (by decide) ?_
      exact hret 1 () 17 _ _ _ (Nat.le_of_ble_eq_true rfl) (Nat.le_of_ble_eq_true rfl) dX0_has_17 (zB01 (by omega)) (by omega)
set_option maxHeartbeats 4000000 in
set_option maxRecDepth 100000 in
theorem c_B_add_ok (M : KM) (h g dm us n : Nat) (fg fd fu : Nat → Int) (dp us1 : Int) (hn : n < 6) (hd : 0 ≤ dp ∧ dp ≤ 20) (hu : us1 = 0 ∨ us1 = 1) : kCI M yX0_add cX0_add 3 .int 0 0 0 [cO 0 h [.int (zI (n : Int)), .ref g, .ref dm, .ref us], cI M g 6 fg, cI M dm 6 fd, cZ M us 6 fu] [.ref h, .int (zI dp), .int (zI us1)] (fun z (u : Unit) => z = n) (fun u => [cO 0 h [.int (zI ((n : Int) + 1)), .ref g, .ref dm, .ref us], cI M g 6 (zU fg n 0), cI M dm 6 (zU fd n dp), cZ M us 6 (zU fu n us1)]) := by
  refine kCI.of [(0, .ref h), (1, .int (zI dp)), (2, .int (zI us1))] (by decide) (Nat.le_of_ble_eq_true rfl) rfl (fun E gg hret => ?_)
  refine z_aload_n (pc := 0) 0 gg dX0_add_0 rfl rfl ?_
  refine z_get (pc := 1) 0 gg fl_X0_9 dX0_add_1 rfl rfl ?_
  refine z_bipush (pc := 4) gg dX0_add_4 (by decide +kernel) ?_
  refine z_icmp_ge (pc := 6) 19 gg dX0_add_6 (by decide) ⟨by omega, by omega⟩ ⟨by omega, by omega⟩ (fun h6 => ?_) (fun h6 => ?_)
  · exfalso; omega
  · refine z_iload_n (pc := 9) 1 gg dX0_add_9 rfl rfl ?_
    refine z_if_lt (pc := 10) 19 gg dX0_add_10 (by decide) ⟨by omega, by omega⟩ (fun h10 => ?_) (fun h10 => ?_)
    · exfalso; omega
    · refine z_iload_n (pc := 13) 1 gg dX0_add_13 rfl rfl ?_
      refine z_bipush (pc := 14) gg dX0_add_14 (by decide +kernel) ?_
      refine z_icmp_le (pc := 16) 21 gg dX0_add_16 (by decide) ⟨by omega, by omega⟩ ⟨by omega, by omega⟩ (fun h16 => ?_) (fun h16 => ?_)
      · refine z_aload_n (pc := 21) 0 gg dX0_add_21 rfl rfl ?_
        refine z_get (pc := 22) 0 gg fl_X0_15 dX0_add_22 rfl rfl ?_
        refine z_aload_n (pc := 25) 0 gg dX0_add_25 rfl rfl ?_
        refine z_get (pc := 26) 0 gg fl_X0_9 dX0_add_26 rfl rfl ?_
        refine z_iconst (pc := 29) gg dX0_add_29 ?_
        refine z_iast (pc := 30) 1 n [cO 0 h [.int (zI (n : Int)), .ref g, .ref dm, .ref us], cI M g 6 (zU fg n 0), cI M dm 6 fd, cZ M us 6 fu] gg dX0_add_30 rfl (by omega) (by omega) (by decide) rfl ?_
        refine z_aload_n (pc := 31) 0 gg dX0_add_31 rfl rfl ?_
        refine z_get (pc := 32) 0 gg fl_X0_19 dX0_add_32 rfl rfl ?_
        refine z_aload_n (pc := 35) 0 gg dX0_add_35 rfl rfl ?_
        refine z_get (pc := 36) 0 gg fl_X0_9 dX0_add_36 rfl rfl ?_
        refine z_iload_n (pc := 39) 1 gg dX0_add_39 rfl rfl ?_
        refine z_iast (pc := 40) 2 n [cO 0 h [.int (zI (n : Int)), .ref g, .ref dm, .ref us], cI M g 6 (zU fg n 0), cI M dm 6 (zU fd n dp), cZ M us 6 fu] gg dX0_add_40 rfl (by omega) (by omega) (by decide) rfl ?_
        refine z_aload_n (pc := 41) 0 gg dX0_add_41 rfl rfl ?_
        refine z_get (pc := 42) 0 gg fl_X0_22 dX0_add_42 rfl rfl ?_
        refine z_aload_n (pc := 45) 0 gg dX0_add_45 rfl rfl ?_
        refine z_get (pc := 46) 0 gg fl_X0_9 dX0_add_46 rfl rfl ?_
        refine z_iload_n (pc := 49) 2 gg dX0_add_49 rfl rfl ?_
        refine z_zast (pc := 50) 3 n [cO 0 h [.int (zI (n : Int)), .ref g, .ref dm, .ref us], cI M g 6 (zU fg n 0), cI M dm 6 (zU fd n dp), cZ M us 6 (zU fu n us1)] gg dX0_add_50 rfl (by omega) (by omega) (by decide) (by omega) rfl ?_
        refine z_aload_n (pc := 51) 0 gg dX0_add_51 rfl rfl ?_
        refine z_dup (pc := 52) gg dX0_add_52 rfl ?_
        refine z_get (pc := 53) 0 gg fl_X0_9 dX0_add_53 rfl rfl ?_
        refine z_iconst (pc := 56) gg dX0_add_56 ?_
        refine z_iadd (pc := 57) gg dX0_add_57 ?_
        refine z_put (pc := 58) 0 [cO 0 h [.int (zI ((n : Int) + 1)), .ref g, .ref dm, .ref us], cI M g 6 (zU fg n 0), cI M dm 6 (zU fd n dp), cZ M us 6 (zU fu n us1)] gg fp_X0_9 dX0_add_58 rfl rfl rfl (Nat.le_of_ble_eq_true rfl) rfl ?_
        refine z_aload_n (pc := 61) 0 gg dX0_add_61 rfl rfl ?_
        refine z_get (pc := 62) 0 gg fl_X0_9 dX0_add_62 rfl rfl ?_
        refine z_iconst (pc := 65) gg dX0_add_65 ?_
        refine z_isub (pc := 66) gg dX0_add_66 ?_
        exact hret (((n : Int) + 1) - 1) () 67 _ _ _ (Nat.le_of_ble_eq_true rfl) (Nat.le_of_ble_eq_true rfl) dX0_add_67 rfl (by omega)
      · exfalso; omega
set_option maxHeartbeats 4000000 in
set_option maxRecDepth 100000 in
theorem c_B_add_no (M : KM) (h g dm us n : Nat) (fg fd fu : Nat → Int) (dp us1 : Int) (hn : n ≤ 6) (hd : n = 6 ∨ dp < 0 ∨ 20 < dp) (hr : zR dp) : kCI M yX0_add cX0_add 3 .int 0 0 0 [cO 0 h [.int (zI (n : Int)), .ref g, .ref dm, .ref us], cI M g 6 fg, cI M dm 6 fd, cZ M us 6 fu] [.ref h, .int (zI dp), .int (zI us1)] (fun z (u : Unit) => z = -1) (fun u => [cO 0 h [.int (zI (n : Int)), .ref g, .ref dm, .ref us], cI M g 6 fg, cI M dm 6 fd, cZ M us 6 fu]) := by
  refine kCI.of [(0, .ref h), (1, .int (zI dp)), (2, .int (zI us1))] (by decide) (Nat.le_of_ble_eq_true rfl) rfl (fun E gg hret => ?_)
  have hb1 := hr.1
  have hb2 := hr.2
  refine z_aload_n (pc := 0) 0 gg dX0_add_0 rfl rfl ?_
  refine z_get (pc := 1) 0 gg fl_X0_9 dX0_add_1 rfl rfl ?_
  refine z_bipush (pc := 4) gg dX0_add_4 (by decide +kernel) ?_
  refine z_icmp_ge (pc := 6) 19 gg dX0_add_6 (by decide) ⟨by omega, by omega⟩ ⟨by omega, by omega⟩ (fun h6 => ?_) (fun h6 => ?_)
  · refine z_iconst (pc := 19) gg dX0_add_19 ?_
    exact hret (-1) () 20 _ _ _ (Nat.le_of_ble_eq_true rfl) (Nat.le_of_ble_eq_true rfl) dX0_add_20 rfl (by omega)
  · refine z_iload_n (pc := 9) 1 gg dX0_add_9 rfl rfl ?_
    refine z_if_lt (pc := 10) 19 gg dX0_add_10 (by decide) ⟨by omega, by omega⟩ (fun h10 => ?_) (fun h10 => ?_)
    · refine z_iconst (pc := 19) gg dX0_add_19 ?_
      exact hret (-1) () 20 _ _ _ (Nat.le_of_ble_eq_true rfl) (Nat.le_of_ble_eq_true rfl) dX0_add_20 rfl (by omega)
    · refine z_iload_n (pc := 13) 1 gg dX0_add_13 rfl rfl ?_
      refine z_bipush (pc := 14) gg dX0_add_14 (by decide +kernel) ?_
      refine z_icmp_le (pc := 16) 21 gg dX0_add_16 (by decide) ⟨by omega, by omega⟩ ⟨by omega, by omega⟩ (fun h16 => ?_) (fun h16 => ?_)
      · exfalso; omega
      · refine z_iconst (pc := 19) gg dX0_add_19 ?_
        exact hret (-1) () 20 _ _ _ (Nat.le_of_ble_eq_true rfl) (Nat.le_of_ble_eq_true rfl) dX0_add_20 rfl (by omega)
set_option maxHeartbeats 4000000 in
set_option maxRecDepth 100000 in
theorem c_B_pour_ok (M : KM) (h g dm us n : Nat) (fg fd fu : Nat → Int) (b x : Int) (hn : n ≤ 6) (hb : 0 ≤ b ∧ b < n) (hx : 0 < x ∧ x ≤ 1000000 - fg b.toNat) (hf : ∀ j, j < 6 → 0 ≤ fg j ∧ fg j ≤ 1000000) : kCI M yX0_pour cX0_pour 3 .int 1 0 0 [cO 0 h [.int (zI (n : Int)), .ref g, .ref dm, .ref us], cI M g 6 fg, cI M dm 6 fd, cZ M us 6 fu] [.ref h, .int (zI b), .int (zI x)] (fun z (u : Unit) => z = fg b.toNat + x) (fun u => [cO 0 h [.int (zI (n : Int)), .ref g, .ref dm, .ref us], cI M g 6 (zU fg b.toNat (fg b.toNat + x)), cI M dm 6 fd, cZ M us 6 fu]) := by
  refine kCI.of [(0, .ref h), (1, .int (zI b)), (2, .int (zI x))] (by decide) (Nat.le_of_ble_eq_true rfl) rfl (fun E gg hret => ?_)
  have hx2 := hf b.toNat (by omega)
  refine z_aload_n (pc := 0) 0 gg dX0_pour_0 rfl rfl ?_
  refine z_iload_n (pc := 1) 1 gg dX0_pour_1 rfl rfl ?_
  refine z_callWi (pc := 2) (As := [.int (zI b)]) (st := []) gg (c_B_has M h g dm us n fg fd fu b (by first | assumption | omega | exact ⟨by omega, by omega⟩) (by first | assumption | omega | exact ⟨by omega, by omega⟩)) yv_0_has ml_X0_26 dX0_pour_2 (by decide) (Nat.le_of_ble_eq_true rfl) (Nat.le_of_ble_eq_true rfl) (Nat.le_of_ble_eq_true rfl) rfl rfl rfl (fun z2 u2 hz2 => ?_)
  refine z_if_eq (pc := 5) 25 gg dX0_pour_5 (by decide) ⟨by omega, by omega⟩ (fun h5 => ?_) (fun h5 => ?_)
  · exfalso; omega
  · refine z_iload_n (pc := 8) 2 gg dX0_pour_8 rfl rfl ?_
    refine z_if_le (pc := 9) 25 gg dX0_pour_9 (by decide) ⟨by omega, by omega⟩ (fun h9 => ?_) (fun h9 => ?_)
    · exfalso; omega
    · refine z_iload_n (pc := 12) 2 gg dX0_pour_12 rfl rfl ?_
      refine z_ldc (pc := 13) (n := 1000000) gg dX0_pour_13 kc_X0_30 (by decide +kernel) ?_
      refine z_aload_n (pc := 15) 0 gg dX0_pour_15 rfl rfl ?_
      refine z_get (pc := 16) 0 gg fl_X0_15 dX0_pour_16 rfl rfl ?_
      refine z_iload_n (pc := 19) 1 gg dX0_pour_19 rfl rfl ?_
      refine z_iald (pc := 20) 1 b.toNat gg dX0_pour_20 rfl (by omega) (by omega) (by decide) ?_
      have hf20 := hf b.toNat (by omega)
      refine z_isub (pc := 21) gg dX0_pour_21 ?_
      refine z_icmp_le (pc := 22) 27 gg dX0_pour_22 (by decide) ⟨by omega, by omega⟩ ⟨by omega, by omega⟩ (fun h22 => ?_) (fun h22 => ?_)
      · refine z_aload_n (pc := 27) 0 gg dX0_pour_27 rfl rfl ?_
        refine z_get (pc := 28) 0 gg fl_X0_15 dX0_pour_28 rfl rfl ?_
        refine z_iload_n (pc := 31) 1 gg dX0_pour_31 rfl rfl ?_
        refine z_dup2 (pc := 32) gg dX0_pour_32 rfl rfl ?_
        refine z_iald (pc := 33) 1 b.toNat gg dX0_pour_33 rfl (by omega) (by omega) (by decide) ?_
        have hf33 := hf b.toNat (by omega)
        refine z_iload_n (pc := 34) 2 gg dX0_pour_34 rfl rfl ?_
        refine z_iadd (pc := 35) gg dX0_pour_35 ?_
        refine z_iast (pc := 36) 1 b.toNat [cO 0 h [.int (zI (n : Int)), .ref g, .ref dm, .ref us], cI M g 6 (zU fg b.toNat ((fg b.toNat) + x)), cI M dm 6 fd, cZ M us 6 fu] gg dX0_pour_36 rfl (by omega) (by omega) (by decide) rfl ?_
        refine z_aload_n (pc := 37) 0 gg dX0_pour_37 rfl rfl ?_
        refine z_get (pc := 38) 0 gg fl_X0_15 dX0_pour_38 rfl rfl ?_
        refine z_iload_n (pc := 41) 1 gg dX0_pour_41 rfl rfl ?_
        refine z_iald (pc := 42) 1 b.toNat gg dX0_pour_42 rfl (by omega) (by omega) (by decide) ?_
        exact hret ((zU fg b.toNat ((fg b.toNat) + x)) b.toNat) () 43 _ _ _ (Nat.le_of_ble_eq_true rfl) (Nat.le_of_ble_eq_true rfl) dX0_pour_43 rfl (zU_s _ _ _)
      · exfalso; omega
set_option maxHeartbeats 4000000 in
set_option maxRecDepth 100000 in
theorem c_B_pour_no (M : KM) (h g dm us n : Nat) (fg fd fu : Nat → Int) (b x : Int) (hn : n ≤ 6) (hb : zR b) (hx : zR x) (hc : b < 0 ∨ (n : Int) ≤ b ∨ x ≤ 0 ∨ 1000000 - fg b.toNat < x) (hf : ∀ j, j < 6 → 0 ≤ fg j ∧ fg j ≤ 1000000) : kCI M yX0_pour cX0_pour 3 .int 1 0 0 [cO 0 h [.int (zI (n : Int)), .ref g, .ref dm, .ref us], cI M g 6 fg, cI M dm 6 fd, cZ M us 6 fu] [.ref h, .int (zI b), .int (zI x)] (fun z (u : Unit) => z = -1) (fun u => [cO 0 h [.int (zI (n : Int)), .ref g, .ref dm, .ref us], cI M g 6 fg, cI M dm 6 fd, cZ M us 6 fu]) := by
  refine kCI.of [(0, .ref h), (1, .int (zI b)), (2, .int (zI x))] (by decide) (Nat.le_of_ble_eq_true rfl) rfl (fun E gg hret => ?_)
  have hx1 := hx.1
  have hx2 := hx.2
  have hb1 := hb.1
  have hb2 := hb.2
  refine z_aload_n (pc := 0) 0 gg dX0_pour_0 rfl rfl ?_
  refine z_iload_n (pc := 1) 1 gg dX0_pour_1 rfl rfl ?_
  refine z_callWi (pc := 2) (As := [.int (zI b)]) (st := []) gg (c_B_has M h g dm us n fg fd fu b (by first | assumption | omega | exact ⟨by omega, by omega⟩) (by first | assumption | omega | exact ⟨by omega, by omega⟩)) yv_0_has ml_X0_26 dX0_pour_2 (by decide) (Nat.le_of_ble_eq_true rfl) (Nat.le_of_ble_eq_true rfl) (Nat.le_of_ble_eq_true rfl) rfl rfl rfl (fun z2 u2 hz2 => ?_)
  refine z_if_eq (pc := 5) 25 gg dX0_pour_5 (by decide) ⟨by omega, by omega⟩ (fun h5 => ?_) (fun h5 => ?_)
  · refine z_iconst (pc := 25) gg dX0_pour_25 ?_
    exact hret (-1) () 26 _ _ _ (Nat.le_of_ble_eq_true rfl) (Nat.le_of_ble_eq_true rfl) dX0_pour_26 rfl (by omega)
  · refine z_iload_n (pc := 8) 2 gg dX0_pour_8 rfl rfl ?_
    refine z_if_le (pc := 9) 25 gg dX0_pour_9 (by decide) ⟨by omega, by omega⟩ (fun h9 => ?_) (fun h9 => ?_)
    · refine z_iconst (pc := 25) gg dX0_pour_25 ?_
      exact hret (-1) () 26 _ _ _ (Nat.le_of_ble_eq_true rfl) (Nat.le_of_ble_eq_true rfl) dX0_pour_26 rfl (by omega)
    · refine z_iload_n (pc := 12) 2 gg dX0_pour_12 rfl rfl ?_
      refine z_ldc (pc := 13) (n := 1000000) gg dX0_pour_13 kc_X0_30 (by decide +kernel) ?_
      refine z_aload_n (pc := 15) 0 gg dX0_pour_15 rfl rfl ?_
      refine z_get (pc := 16) 0 gg fl_X0_15 dX0_pour_16 rfl rfl ?_
      refine z_iload_n (pc := 19) 1 gg dX0_pour_19 rfl rfl ?_
      refine z_iald (pc := 20) 1 b.toNat gg dX0_pour_20 rfl (by omega) (by omega) (by decide) ?_
      have hf20 := hf b.toNat (by omega)
      refine z_isub (pc := 21) gg dX0_pour_21 ?_
      refine z_icmp_le (pc := 22) 27 gg dX0_pour_22 (by decide) ⟨by omega, by omega⟩ ⟨by omega, by omega⟩ (fun h22 => ?_) (fun h22 => ?_)
      · exfalso; omega
      · refine z_iconst (pc := 25) gg dX0_pour_25 ?_
        exact hret (-1) () 26 _ _ _ (Nat.le_of_ble_eq_true rfl) (Nat.le_of_ble_eq_true rfl) dX0_pour_26 rfl (by omega)
set_option maxHeartbeats 4000000 in
set_option maxRecDepth 100000 in
theorem c_B_gramsOf (M : KM) (h g dm us n : Nat) (fg fd fu : Nat → Int) (b : Int) (hn : n ≤ 6) (hb : zR b) : kCI M yX0_gramsOf cX0_gramsOf 2 .int 1 0 0 [cO 0 h [.int (zI (n : Int)), .ref g, .ref dm, .ref us], cI M g 6 fg, cI M dm 6 fd, cZ M us 6 fu] [.ref h, .int (zI b)] (fun z (u : Unit) => (0 ≤ b ∧ b < n ∧ z = fg b.toNat) ∨ ((b < 0 ∨ (n : Int) ≤ b) ∧ z = -1)) (fun u => [cO 0 h [.int (zI (n : Int)), .ref g, .ref dm, .ref us], cI M g 6 fg, cI M dm 6 fd, cZ M us 6 fu]) := by
  refine kCI.of [(0, .ref h), (1, .int (zI b))] (by decide) (Nat.le_of_ble_eq_true rfl) rfl (fun E gg hret => ?_)
  have hb1 := hb.1
  have hb2 := hb.2
  refine z_aload_n (pc := 0) 0 gg dX0_gramsOf_0 rfl rfl ?_
  refine z_iload_n (pc := 1) 1 gg dX0_gramsOf_1 rfl rfl ?_
  refine z_callWi (pc := 2) (As := [.int (zI b)]) (st := []) gg (c_B_has M h g dm us n fg fd fu b (by first | assumption | omega | exact ⟨by omega, by omega⟩) (by first | assumption | omega | exact ⟨by omega, by omega⟩)) yv_0_has ml_X0_26 dX0_gramsOf_2 (by decide) (Nat.le_of_ble_eq_true rfl) (Nat.le_of_ble_eq_true rfl) (Nat.le_of_ble_eq_true rfl) rfl rfl rfl (fun z2 u2 hz2 => ?_)
  refine z_if_eq (pc := 5) 17 gg dX0_gramsOf_5 (by decide) ⟨by omega, by omega⟩ (fun h5 => ?_) (fun h5 => ?_)
  · refine z_iconst (pc := 17) gg dX0_gramsOf_17 ?_
    exact hret (-1) () 18 _ _ _ (Nat.le_of_ble_eq_true rfl) (Nat.le_of_ble_eq_true rfl) dX0_gramsOf_18 rfl (by omega)
  · refine z_aload_n (pc := 8) 0 gg dX0_gramsOf_8 rfl rfl ?_
    refine z_get (pc := 9) 0 gg fl_X0_15 dX0_gramsOf_9 rfl rfl ?_
    refine z_iload_n (pc := 12) 1 gg dX0_gramsOf_12 rfl rfl ?_
    refine z_iald (pc := 13) 1 b.toNat gg dX0_gramsOf_13 rfl (by omega) (by omega) (by decide) ?_
    refine z_goto (pc := 14) 18 gg dX0_gramsOf_14 (by decide) ?_
    exact hret (fg b.toNat) () 18 _ _ _ (Nat.le_of_ble_eq_true rfl) (Nat.le_of_ble_eq_true rfl) dX0_gramsOf_18 rfl (by omega)
set_option maxHeartbeats 4000000 in
set_option maxRecDepth 100000 in
theorem c_B_dampOf (M : KM) (h g dm us n : Nat) (fg fd fu : Nat → Int) (b : Int) (hn : n ≤ 6) (hb : zR b) : kCI M yX0_dampOf cX0_dampOf 2 .int 1 0 0 [cO 0 h [.int (zI (n : Int)), .ref g, .ref dm, .ref us], cI M g 6 fg, cI M dm 6 fd, cZ M us 6 fu] [.ref h, .int (zI b)] (fun z (u : Unit) => (0 ≤ b ∧ b < n ∧ z = fd b.toNat) ∨ ((b < 0 ∨ (n : Int) ≤ b) ∧ z = -1)) (fun u => [cO 0 h [.int (zI (n : Int)), .ref g, .ref dm, .ref us], cI M g 6 fg, cI M dm 6 fd, cZ M us 6 fu]) := by
  refine kCI.of [(0, .ref h), (1, .int (zI b))] (by decide) (Nat.le_of_ble_eq_true rfl) rfl (fun E gg hret => ?_)
  have hb1 := hb.1
  have hb2 := hb.2
  refine z_aload_n (pc := 0) 0 gg dX0_dampOf_0 rfl rfl ?_
  refine z_iload_n (pc := 1) 1 gg dX0_dampOf_1 rfl rfl ?_
  refine z_callWi (pc := 2) (As := [.int (zI b)]) (st := []) gg (c_B_has M h g dm us n fg fd fu b (by first | assumption | omega | exact ⟨by omega, by omega⟩) (by first | assumption | omega | exact ⟨by omega, by omega⟩)) yv_0_has ml_X0_26 dX0_dampOf_2 (by decide) (Nat.le_of_ble_eq_true rfl) (Nat.le_of_ble_eq_true rfl) (Nat.le_of_ble_eq_true rfl) rfl rfl rfl (fun z2 u2 hz2 => ?_)
  refine z_if_eq (pc := 5) 17 gg dX0_dampOf_5 (by decide) ⟨by omega, by omega⟩ (fun h5 => ?_) (fun h5 => ?_)
  · refine z_iconst (pc := 17) gg dX0_dampOf_17 ?_
    exact hret (-1) () 18 _ _ _ (Nat.le_of_ble_eq_true rfl) (Nat.le_of_ble_eq_true rfl) dX0_dampOf_18 rfl (by omega)
  · refine z_aload_n (pc := 8) 0 gg dX0_dampOf_8 rfl rfl ?_
    refine z_get (pc := 9) 0 gg fl_X0_19 dX0_dampOf_9 rfl rfl ?_
    refine z_iload_n (pc := 12) 1 gg dX0_dampOf_12 rfl rfl ?_
    refine z_iald (pc := 13) 2 b.toNat gg dX0_dampOf_13 rfl (by omega) (by omega) (by decide) ?_
    refine z_goto (pc := 14) 18 gg dX0_dampOf_14 (by decide) ?_
    exact hret (fd b.toNat) () 18 _ _ _ (Nat.le_of_ble_eq_true rfl) (Nat.le_of_ble_eq_true rfl) dX0_dampOf_18 rfl (by omega)
set_option maxHeartbeats 4000000 in
set_option maxRecDepth 100000 in
theorem c_B_usedPart (M : KM) (h g dm us n : Nat) (fg fd fu : Nat → Int) (b x : Int) (hn : n ≤ 6) (hb : 0 ≤ b ∧ b < n) (hu : ∀ j, j < 6 → fu j = 0 ∨ fu j = 1) : kCI M yX0_usedPart cX0_usedPart 3 .int 1 0 0 [cO 0 h [.int (zI (n : Int)), .ref g, .ref dm, .ref us], cI M g 6 fg, cI M dm 6 fd, cZ M us 6 fu] [.ref h, .int (zI b), .int (zI x)] (fun z (u : Unit) => (fu b.toNat = 1 ∧ z = x) ∨ (fu b.toNat = 0 ∧ z = 0)) (fun u => [cO 0 h [.int (zI (n : Int)), .ref g, .ref dm, .ref us], cI M g 6 fg, cI M dm 6 fd, cZ M us 6 fu]) := by
  refine kCI.of [(0, .ref h), (1, .int (zI b)), (2, .int (zI x))] (by decide) (Nat.le_of_ble_eq_true rfl) rfl (fun E gg hret => ?_)
  have hx2 := hu b.toNat (by omega)
  refine z_aload_n (pc := 0) 0 gg dX0_usedPart_0 rfl rfl ?_
  refine z_iload_n (pc := 1) 1 gg dX0_usedPart_1 rfl rfl ?_
  refine z_callWi (pc := 2) (As := [.int (zI b)]) (st := []) gg (c_B_has M h g dm us n fg fd fu b (by first | assumption | omega | exact ⟨by omega, by omega⟩) (by first | assumption | omega | exact ⟨by omega, by omega⟩)) yv_0_has ml_X0_26 dX0_usedPart_2 (by decide) (Nat.le_of_ble_eq_true rfl) (Nat.le_of_ble_eq_true rfl) (Nat.le_of_ble_eq_true rfl) rfl rfl rfl (fun z2 u2 hz2 => ?_)
  refine z_if_eq (pc := 5) 21 gg dX0_usedPart_5 (by decide) ⟨by omega, by omega⟩ (fun h5 => ?_) (fun h5 => ?_)
  · exfalso; omega
  · refine z_aload_n (pc := 8) 0 gg dX0_usedPart_8 rfl rfl ?_
    refine z_get (pc := 9) 0 gg fl_X0_22 dX0_usedPart_9 rfl rfl ?_
    refine z_iload_n (pc := 12) 1 gg dX0_usedPart_12 rfl rfl ?_
    refine z_zald (pc := 13) 3 b.toNat gg dX0_usedPart_13 rfl (by omega) (by omega) (by decide) ?_
    have hf13 := hu b.toNat (by omega)
    refine z_if_eq (pc := 14) 21 gg dX0_usedPart_14 (by decide) ⟨by omega, by omega⟩ (fun h14 => ?_) (fun h14 => ?_)
    · refine z_iconst (pc := 21) gg dX0_usedPart_21 ?_
      exact hret 0 () 22 _ _ _ (Nat.le_of_ble_eq_true rfl) (Nat.le_of_ble_eq_true rfl) dX0_usedPart_22 rfl (by omega)
    · refine z_iload_n (pc := 17) 2 gg dX0_usedPart_17 rfl rfl ?_
      refine z_goto (pc := 18) 22 gg dX0_usedPart_18 (by decide) ?_
      exact hret x () 22 _ _ _ (Nat.le_of_ble_eq_true rfl) (Nat.le_of_ble_eq_true rfl) dX0_usedPart_22 rfl (by omega)
set_option maxHeartbeats 4000000 in
set_option maxRecDepth 100000 in
theorem c_B_canGive (M : KM) (h g dm us n : Nat) (fg fd fu : Nat → Int) (f x c y : Int) (hn : n ≤ 6) (hf0 : 0 ≤ f ∧ f < n) (hc0 : 0 ≤ c ∧ c < n) (hx : 0 ≤ x ∧ x ≤ 10000) (hy : 0 ≤ y ∧ y ≤ 10000) (hf : ∀ j, j < 6 → 0 ≤ fg j ∧ fg j ≤ 1000000) : kCI M yX0_canGive cX0_canGive 5 .boolean 2 0 0 [cO 0 h [.int (zI (n : Int)), .ref g, .ref dm, .ref us], cI M g 6 fg, cI M dm 6 fd, cZ M us 6 fu] [.ref h, .int (zI f), .int (zI x), .int (zI c), .int (zI y)] (fun z (u : Unit) => (z = 1 ∧ ((f = c ∧ x + y ≤ fg f.toNat) ∨ (f ≠ c ∧ x ≤ fg f.toNat ∧ y ≤ fg c.toNat))) ∨ (z = 0 ∧ ((f = c ∧ fg f.toNat < x + y) ∨ (f ≠ c ∧ (fg f.toNat < x ∨ fg c.toNat < y))))) (fun u => [cO 0 h [.int (zI (n : Int)), .ref g, .ref dm, .ref us], cI M g 6 fg, cI M dm 6 fd, cZ M us 6 fu]) := by
  refine kCI.of [(0, .ref h), (1, .int (zI f)), (2, .int (zI x)), (3, .int (zI c)), (4, .int (zI y))] (by decide) (Nat.le_of_ble_eq_true rfl) rfl (fun E gg hret => ?_)
  have e1 := hf f.toNat (by omega)
  have e2 := hf c.toNat (by omega)
  refine z_iload_n (pc := 0) 1 gg dX0_canGive_0 rfl rfl ?_
  refine z_iload_n (pc := 1) 3 gg dX0_canGive_1 rfl rfl ?_
  refine z_icmp_ne (pc := 2) 23 gg dX0_canGive_2 (by decide) ⟨by omega, by omega⟩ ⟨by omega, by omega⟩ (fun h2 => ?_) (fun h2 => ?_)
  · refine z_aload_n (pc := 23) 0 gg dX0_canGive_23 rfl rfl ?_
    refine z_iload_n (pc := 24) 1 gg dX0_canGive_24 rfl rfl ?_
    refine z_callWi (pc := 25) (As := [.int (zI f)]) (st := []) gg (c_B_gramsOf M h g dm us n fg fd fu f (by first | assumption | omega | exact ⟨by omega, by omega⟩) (by first | assumption | omega | exact ⟨by omega, by omega⟩)) yv_0_gramsOf ml_X0_31 dX0_canGive_25 (by decide) (Nat.le_of_ble_eq_true rfl) (Nat.le_of_ble_eq_true rfl) (Nat.le_of_ble_eq_true rfl) rfl rfl rfl (fun z25 u25 hz25 => ?_)
    refine z_iload_n (pc := 28) 2 gg dX0_canGive_28 rfl rfl ?_
    refine z_icmp_lt (pc := 29) 46 gg dX0_canGive_29 (by decide) ⟨by omega, by omega⟩ ⟨by omega, by omega⟩ (fun h29 => ?_) (fun h29 => ?_)
    · refine z_iconst (pc := 46) gg dX0_canGive_46 ?_
      exact hret 0 () 47 _ _ _ (Nat.le_of_ble_eq_true rfl) (Nat.le_of_ble_eq_true rfl) dX0_canGive_47 (zB01 (by omega)) (by omega)
    · refine z_aload_n (pc := 32) 0 gg dX0_canGive_32 rfl rfl ?_
      refine z_iload_n (pc := 33) 3 gg dX0_canGive_33 rfl rfl ?_
      refine z_callWi (pc := 34) (As := [.int (zI c)]) (st := []) gg (c_B_gramsOf M h g dm us n fg fd fu c (by first | assumption | omega | exact ⟨by omega, by omega⟩) (by first | assumption | omega | exact ⟨by omega, by omega⟩)) yv_0_gramsOf ml_X0_31 dX0_canGive_34 (by decide) (Nat.le_of_ble_eq_true rfl) (Nat.le_of_ble_eq_true rfl) (Nat.le_of_ble_eq_true rfl) rfl rfl rfl (fun z34 u34 hz34 => ?_)
      refine z_iload (pc := 37) 4 gg dX0_canGive_37 rfl ?_
      refine z_icmp_lt (pc := 39) 46 gg dX0_canGive_39 (by decide) ⟨by omega, by omega⟩ ⟨by omega, by omega⟩ (fun h39 => ?_) (fun h39 => ?_)
      · refine z_iconst (pc := 46) gg dX0_canGive_46 ?_
        exact hret 0 () 47 _ _ _ (Nat.le_of_ble_eq_true rfl) (Nat.le_of_ble_eq_true rfl) dX0_canGive_47 (zB01 (by omega)) (by omega)
      · refine z_iconst (pc := 42) gg dX0_canGive_42 ?_
        refine z_goto (pc := 43) 47 gg dX0_canGive_43 (by decide) ?_
        exact hret 1 () 47 _ _ _ (Nat.le_of_ble_eq_true rfl) (Nat.le_of_ble_eq_true rfl) dX0_canGive_47 (zB01 (by omega)) (by omega)
  · refine z_aload_n (pc := 5) 0 gg dX0_canGive_5 rfl rfl ?_
    refine z_iload_n (pc := 6) 1 gg dX0_canGive_6 rfl rfl ?_
    refine z_callWi (pc := 7) (As := [.int (zI f)]) (st := []) gg (c_B_gramsOf M h g dm us n fg fd fu f (by first | assumption | omega | exact ⟨by omega, by omega⟩) (by first | assumption | omega | exact ⟨by omega, by omega⟩)) yv_0_gramsOf ml_X0_31 dX0_canGive_7 (by decide) (Nat.le_of_ble_eq_true rfl) (Nat.le_of_ble_eq_true rfl) (Nat.le_of_ble_eq_true rfl) rfl rfl rfl (fun z7 u7 hz7 => ?_)
    refine z_iload_n (pc := 10) 2 gg dX0_canGive_10 rfl rfl ?_
    refine z_iload (pc := 11) 4 gg dX0_canGive_11 rfl ?_
    refine z_iadd (pc := 13) gg dX0_canGive_13 ?_
    refine z_icmp_lt (pc := 14) 21 gg dX0_canGive_14 (by decide) ⟨by omega, by omega⟩ ⟨by omega, by omega⟩ (fun h14 => ?_) (fun h14 => ?_)
    · refine z_iconst (pc := 21) gg dX0_canGive_21 ?_
      exact hret 0 () 22 _ _ _ (Nat.le_of_ble_eq_true rfl) (Nat.le_of_ble_eq_true rfl) dX0_canGive_22 (zB01 (by omega)) (by omega)
    · refine z_iconst (pc := 17) gg dX0_canGive_17 ?_
      refine z_goto (pc := 18) 22 gg dX0_canGive_18 (by decide) ?_
      exact hret 1 () 22 _ _ _ (Nat.le_of_ble_eq_true rfl) (Nat.le_of_ble_eq_true rfl) dX0_canGive_22 (zB01 (by omega)) (by omega)
set_option maxHeartbeats 4000000 in
set_option maxRecDepth 100000 in
theorem c_B_give (M : KM) (h g dm us n : Nat) (fg fd fu : Nat → Int) (b x : Int) (hn : n ≤ 6) (hb : 0 ≤ b ∧ b < n) : kCV M yX0_give cX0_give 3 1 0 0 [cO 0 h [.int (zI (n : Int)), .ref g, .ref dm, .ref us], cI M g 6 fg, cI M dm 6 fd, cZ M us 6 fu] [.ref h, .int (zI b), .int (zI x)] (fun u : Unit => True) (fun u => [cO 0 h [.int (zI (n : Int)), .ref g, .ref dm, .ref us], cI M g 6 (zU fg b.toNat (fg b.toNat - x)), cI M dm 6 fd, cZ M us 6 fu]) := by
  refine kCV.of [(0, .ref h), (1, .int (zI b)), (2, .int (zI x))] (by decide) (Nat.le_of_ble_eq_true rfl) rfl (fun E gg gn hret => ?_)
  refine z_aload_n (pc := 0) 0 gg dX0_give_0 rfl rfl ?_
  refine z_iload_n (pc := 1) 1 gg dX0_give_1 rfl rfl ?_
  refine z_callWi (pc := 2) (As := [.int (zI b)]) (st := []) gg (c_B_has M h g dm us n fg fd fu b (by first | assumption | omega | exact ⟨by omega, by omega⟩) (by first | assumption | omega | exact ⟨by omega, by omega⟩)) yv_0_has ml_X0_26 dX0_give_2 (by decide) (Nat.le_of_ble_eq_true rfl) (Nat.le_of_ble_eq_true rfl) (Nat.le_of_ble_eq_true rfl) rfl rfl rfl (fun z2 u2 hz2 => ?_)
  refine z_if_eq (pc := 5) 18 gg dX0_give_5 (by decide) ⟨by omega, by omega⟩ (fun h5 => ?_) (fun h5 => ?_)
  · exfalso; omega
  · refine z_aload_n (pc := 8) 0 gg dX0_give_8 rfl rfl ?_
    refine z_get (pc := 9) 0 gg fl_X0_15 dX0_give_9 rfl rfl ?_
    refine z_iload_n (pc := 12) 1 gg dX0_give_12 rfl rfl ?_
    refine z_dup2 (pc := 13) gg dX0_give_13 rfl rfl ?_
    refine z_iald (pc := 14) 1 b.toNat gg dX0_give_14 rfl (by omega) (by omega) (by decide) ?_
    refine z_iload_n (pc := 15) 2 gg dX0_give_15 rfl rfl ?_
    refine z_isub (pc := 16) gg dX0_give_16 ?_
    refine z_iast (pc := 17) 1 b.toNat [cO 0 h [.int (zI (n : Int)), .ref g, .ref dm, .ref us], cI M g 6 (zU fg b.toNat ((fg b.toNat) - x)), cI M dm 6 fd, cZ M us 6 fu] gg dX0_give_17 rfl (by omega) (by omega) (by decide) rfl ?_
    exact hret () 18 _ _ _ (Nat.le_of_ble_eq_true rfl) (Nat.le_of_ble_eq_true rfl) dX0_give_18 trivial
set_option maxHeartbeats 4000000 in
set_option maxRecDepth 100000 in
theorem c_B_total (M : KM) (h g dm us n : Nat) (fg fd fu : Nat → Int) (hn : n ≤ 6) (hf : ∀ j, j < 6 → 0 ≤ fg j ∧ fg j ≤ 1000000) : kCI M yX0_total cX0_total 3 .int 0 0 0 [cO 0 h [.int (zI (n : Int)), .ref g, .ref dm, .ref us], cI M g 6 fg, cI M dm 6 fd, cZ M us 6 fu] [.ref h] (fun z (u : Unit) => z = zS fg n) (fun u => [cO 0 h [.int (zI (n : Int)), .ref g, .ref dm, .ref us], cI M g 6 fg, cI M dm 6 fd, cZ M us 6 fu]) := by
  refine kCI.of [(0, .ref h)] (by decide) (Nat.le_of_ble_eq_true rfl) rfl (fun E gg hret => ?_)
  refine z_iconst (pc := 0) gg dX0_total_0 ?_
  refine z_istore_n (pc := 1) [(1, .int (zI 0)), (0, .ref h)] gg dX0_total_1 rfl (Nat.le_of_ble_eq_true rfl) rfl ?_
  refine z_iconst (pc := 2) gg dX0_total_2 ?_
  refine z_istore_n (pc := 3) [(2, .int (zI 0)), (1, .int (zI 0)), (0, .ref h)] gg dX0_total_3 rfl (Nat.le_of_ble_eq_true rfl) rfl ?_
  have loop4 : ∀ (k4 : Nat) (i s : Int), (0 ≤ i ∧ i ≤ n) → (s = zS fg i.toNat) → (n : Int).toNat - i.toNat < k4 → kV M E 3 0 0 [cO 0 h [.int (zI (n : Int)), .ref g, .ref dm, .ref us], cI M g 6 fg, cI M dm 6 fd, cZ M us 6 fu] [(2, .int (zI i)), (1, .int (zI s)), (0, .ref h)] 4 [] := by
    intro k4
    induction k4 with
    | zero => intro i s hi hs hm4; exact absurd hm4 (Nat.not_lt_zero _)
    | succ k4 ih4 =>
      intro i s hi hs hm4
      refine z_iload_n (pc := 4) 0 gg dX0_total_4 rfl rfl ?_
      refine z_aload_n (pc := 5) 2 gg dX0_total_5 rfl rfl ?_
      refine z_get (pc := 6) 0 gg fl_X0_9 dX0_total_6 rfl rfl ?_
      refine z_icmp_ge (pc := 9) 33 gg dX0_total_9 (by decide) ⟨by omega, by omega⟩ ⟨by omega, by omega⟩ (fun h9 => ?_) (fun h9 => ?_)
      · refine z_iload_n (pc := 33) 1 gg dX0_total_33 rfl rfl ?_
        exact hret s () 34 _ _ _ (Nat.le_of_ble_eq_true rfl) (Nat.le_of_ble_eq_true rfl) dX0_total_34 rfl (by rw [hs]; congr 1; omega)
      · refine z_iload_n (pc := 12) 0 gg dX0_total_12 rfl rfl ?_
        refine z_bipush (pc := 13) gg dX0_total_13 (by decide +kernel) ?_
        refine z_icmp_ge (pc := 15) 33 gg dX0_total_15 (by decide) ⟨by omega, by omega⟩ ⟨by omega, by omega⟩ (fun h15 => ?_) (fun h15 => ?_)
        · exfalso; omega
        · refine z_iload_n (pc := 18) 1 gg dX0_total_18 rfl rfl ?_
          refine z_aload_n (pc := 19) 2 gg dX0_total_19 rfl rfl ?_
          refine z_get (pc := 20) 0 gg fl_X0_15 dX0_total_20 rfl rfl ?_
          refine z_iload_n (pc := 23) 0 gg dX0_total_23 rfl rfl ?_
          refine z_iald (pc := 24) 1 i.toNat gg dX0_total_24 rfl (by omega) (by omega) (by decide) ?_
          refine z_iadd (pc := 25) gg dX0_total_25 ?_
          refine z_istore_n (pc := 26) [(1, .int (zI (s + (fg i.toNat)))), (2, .int (zI i)), (0, .ref h)] gg dX0_total_26 rfl (Nat.le_of_ble_eq_true rfl) rfl ?_
          refine z_iinc (pc := 27) 1 [(2, .int (zI (i + 1))), (1, .int (zI (s + (fg i.toNat)))), (0, .ref h)] gg dX0_total_27 rfl (Nat.le_of_ble_eq_true rfl) rfl ?_
          refine z_goto (pc := 30) 4 gg dX0_total_30 (by decide) ?_
          exact ih4 (i + 1) (s + fg i.toNat) (by omega) (by rw [zS_step (by omega), hs]) (by omega)
  exact loop4 _ 0 0 (by omega) rfl (Nat.lt_succ_self _)
set_option maxHeartbeats 4000000 in
set_option maxRecDepth 100000 in
theorem c_B_copyFrom (M : KM) (h g dm us n : Nat) (fg fd fu : Nat → Int) (h2 g2 dm2 us2 n2 : Nat) (fg2 fd2 fu2 : Nat → Int) (hu : ∀ j, j < 6 → fu2 j = 0 ∨ fu2 j = 1) : kCV M yX0_copyFrom cX0_copyFrom 3 0 0 0 [cO 0 h [.int (zI (n : Int)), .ref g, .ref dm, .ref us], cI M g 6 fg, cI M dm 6 fd, cZ M us 6 fu, cO 0 h2 [.int (zI (n2 : Int)), .ref g2, .ref dm2, .ref us2], cI M g2 6 fg2, cI M dm2 6 fd2, cZ M us2 6 fu2] [.ref h, .ref h2] (fun u : Unit => True) (fun u => [cO 0 h [.int (zI (n2 : Int)), .ref g, .ref dm, .ref us], cI M g 6 fg2, cI M dm 6 fd2, cZ M us 6 fu2, cO 0 h2 [.int (zI (n2 : Int)), .ref g2, .ref dm2, .ref us2], cI M g2 6 fg2, cI M dm2 6 fd2, cZ M us2 6 fu2]) := by
  refine kCV.of [(0, .ref h), (1, .ref h2)] (by decide) (Nat.le_of_ble_eq_true rfl) rfl (fun E gg gn hret => ?_)
  refine z_aload_n (pc := 0) 0 gg dX0_copyFrom_0 rfl rfl ?_
  refine z_aload_n (pc := 1) 1 gg dX0_copyFrom_1 rfl rfl ?_
  refine z_get (pc := 2) 4 gg fl_X0_9 dX0_copyFrom_2 rfl rfl ?_
  refine z_put (pc := 5) 0 [cO 0 h [.int (zI (n2 : Int)), .ref g, .ref dm, .ref us], cI M g 6 fg, cI M dm 6 fd, cZ M us 6 fu, cO 0 h2 [.int (zI (n2 : Int)), .ref g2, .ref dm2, .ref us2], cI M g2 6 fg2, cI M dm2 6 fd2, cZ M us2 6 fu2] gg fp_X0_9 dX0_copyFrom_5 rfl rfl rfl (Nat.le_of_ble_eq_true rfl) rfl ?_
  refine z_iconst (pc := 8) gg dX0_copyFrom_8 ?_
  refine z_istore_n (pc := 9) [(2, .int (zI 0)), (0, .ref h), (1, .ref h2)] gg dX0_copyFrom_9 rfl (Nat.le_of_ble_eq_true rfl) rfl ?_
  have loop10 : ∀ (k10 : Nat) (i : Int) (f1 f2 f3 : Nat → Int), (0 ≤ i ∧ i ≤ 6) → (∀ j, j < i.toNat → f1 j = fg2 j) → (∀ j, j < i.toNat → f2 j = fd2 j) → (∀ j, j < i.toNat → f3 j = fu2 j) → 6 - i.toNat < k10 → kV M E 3 0 0 [cO 0 h [.int (zI (n2 : Int)), .ref g, .ref dm, .ref us], cI M g 6 f1, cI M dm 6 f2, cZ M us 6 f3, cO 0 h2 [.int (zI (n2 : Int)), .ref g2, .ref dm2, .ref us2], cI M g2 6 fg2, cI M dm2 6 fd2, cZ M us2 6 fu2] [(2, .int (zI i)), (0, .ref h), (1, .ref h2)] 10 [] := by
    intro k10
    induction k10 with
    | zero => intro i f1 f2 f3 hi k1 k2 k3 hm10; exact absurd hm10 (Nat.not_lt_zero _)
    | succ k10 ih10 =>
      intro i f1 f2 f3 hi k1 k2 k3 hm10
      refine z_iload_n (pc := 10) 0 gg dX0_copyFrom_10 rfl rfl ?_
      refine z_bipush (pc := 11) gg dX0_copyFrom_11 (by decide +kernel) ?_
      refine z_icmp_ge (pc := 13) 58 gg dX0_copyFrom_13 (by decide) ⟨by omega, by omega⟩ ⟨by omega, by omega⟩ (fun h13 => ?_) (fun h13 => ?_)
      · refine z_fun 1 fg2 [cO 0 h [.int (zI (n2 : Int)), .ref g, .ref dm, .ref us], cI M g 6 fg2, cI M dm 6 f2, cZ M us 6 f3, cO 0 h2 [.int (zI (n2 : Int)), .ref g2, .ref dm2, .ref us2], cI M g2 6 fg2, cI M dm2 6 fd2, cZ M us2 6 fu2] rfl (fun j hj => k1 j (by omega)) rfl ?_
        refine z_fun 2 fd2 [cO 0 h [.int (zI (n2 : Int)), .ref g, .ref dm, .ref us], cI M g 6 fg2, cI M dm 6 fd2, cZ M us 6 f3, cO 0 h2 [.int (zI (n2 : Int)), .ref g2, .ref dm2, .ref us2], cI M g2 6 fg2, cI M dm2 6 fd2, cZ M us2 6 fu2] rfl (fun j hj => k2 j (by omega)) rfl ?_
        refine z_funZ 3 fu2 [cO 0 h [.int (zI (n2 : Int)), .ref g, .ref dm, .ref us], cI M g 6 fg2, cI M dm 6 fd2, cZ M us 6 fu2, cO 0 h2 [.int (zI (n2 : Int)), .ref g2, .ref dm2, .ref us2], cI M g2 6 fg2, cI M dm2 6 fd2, cZ M us2 6 fu2] rfl (fun j hj => k3 j (by omega)) rfl ?_
        exact hret () 58 _ _ _ (Nat.le_of_ble_eq_true rfl) (Nat.le_of_ble_eq_true rfl) dX0_copyFrom_58 trivial
      · refine z_aload_n (pc := 16) 1 gg dX0_copyFrom_16 rfl rfl ?_
        refine z_get (pc := 17) 0 gg fl_X0_15 dX0_copyFrom_17 rfl rfl ?_
        refine z_iload_n (pc := 20) 0 gg dX0_copyFrom_20 rfl rfl ?_
        refine z_aload_n (pc := 21) 2 gg dX0_copyFrom_21 rfl rfl ?_
        refine z_get (pc := 22) 4 gg fl_X0_15 dX0_copyFrom_22 rfl rfl ?_
        refine z_iload_n (pc := 25) 0 gg dX0_copyFrom_25 rfl rfl ?_
        refine z_iald (pc := 26) 5 i.toNat gg dX0_copyFrom_26 rfl (by omega) (by omega) (by decide) ?_
        refine z_iast (pc := 27) 1 i.toNat [cO 0 h [.int (zI (n2 : Int)), .ref g, .ref dm, .ref us], cI M g 6 (zU f1 i.toNat (fg2 i.toNat)), cI M dm 6 f2, cZ M us 6 f3, cO 0 h2 [.int (zI (n2 : Int)), .ref g2, .ref dm2, .ref us2], cI M g2 6 fg2, cI M dm2 6 fd2, cZ M us2 6 fu2] gg dX0_copyFrom_27 rfl (by omega) (by omega) (by decide) rfl ?_
        refine z_aload_n (pc := 28) 1 gg dX0_copyFrom_28 rfl rfl ?_
        refine z_get (pc := 29) 0 gg fl_X0_19 dX0_copyFrom_29 rfl rfl ?_
        refine z_iload_n (pc := 32) 0 gg dX0_copyFrom_32 rfl rfl ?_
        refine z_aload_n (pc := 33) 2 gg dX0_copyFrom_33 rfl rfl ?_
        refine z_get (pc := 34) 4 gg fl_X0_19 dX0_copyFrom_34 rfl rfl ?_
        refine z_iload_n (pc := 37) 0 gg dX0_copyFrom_37 rfl rfl ?_
        refine z_iald (pc := 38) 6 i.toNat gg dX0_copyFrom_38 rfl (by omega) (by omega) (by decide) ?_
        refine z_iast (pc := 39) 2 i.toNat [cO 0 h [.int (zI (n2 : Int)), .ref g, .ref dm, .ref us], cI M g 6 (zU f1 i.toNat (fg2 i.toNat)), cI M dm 6 (zU f2 i.toNat (fd2 i.toNat)), cZ M us 6 f3, cO 0 h2 [.int (zI (n2 : Int)), .ref g2, .ref dm2, .ref us2], cI M g2 6 fg2, cI M dm2 6 fd2, cZ M us2 6 fu2] gg dX0_copyFrom_39 rfl (by omega) (by omega) (by decide) rfl ?_
        refine z_aload_n (pc := 40) 1 gg dX0_copyFrom_40 rfl rfl ?_
        refine z_get (pc := 41) 0 gg fl_X0_22 dX0_copyFrom_41 rfl rfl ?_
        refine z_iload_n (pc := 44) 0 gg dX0_copyFrom_44 rfl rfl ?_
        refine z_aload_n (pc := 45) 2 gg dX0_copyFrom_45 rfl rfl ?_
        refine z_get (pc := 46) 4 gg fl_X0_22 dX0_copyFrom_46 rfl rfl ?_
        refine z_iload_n (pc := 49) 0 gg dX0_copyFrom_49 rfl rfl ?_
        refine z_zald (pc := 50) 7 i.toNat gg dX0_copyFrom_50 rfl (by omega) (by omega) (by decide) ?_
        have hf50 := hu i.toNat (by omega)
        refine z_zast (pc := 51) 3 i.toNat [cO 0 h [.int (zI (n2 : Int)), .ref g, .ref dm, .ref us], cI M g 6 (zU f1 i.toNat (fg2 i.toNat)), cI M dm 6 (zU f2 i.toNat (fd2 i.toNat)), cZ M us 6 (zU f3 i.toNat (fu2 i.toNat)), cO 0 h2 [.int (zI (n2 : Int)), .ref g2, .ref dm2, .ref us2], cI M g2 6 fg2, cI M dm2 6 fd2, cZ M us2 6 fu2] gg dX0_copyFrom_51 rfl (by omega) (by omega) (by decide) (by omega) rfl ?_
        refine z_iinc (pc := 52) 0 [(2, .int (zI (i + 1))), (0, .ref h), (1, .ref h2)] gg dX0_copyFrom_52 rfl (Nat.le_of_ble_eq_true rfl) rfl ?_
        refine z_goto (pc := 55) 10 gg dX0_copyFrom_55 (by decide) ?_
        exact ih10 (i + 1) (zU f1 i.toNat (fg2 i.toNat)) (zU f2 i.toNat (fd2 i.toNat)) (zU f3 i.toNat (fu2 i.toNat)) (by omega) (zU_ext (by omega) k1) (zU_ext (by omega) k2) (zU_ext (by omega) k3) (by omega)
  exact loop10 _ 0 fg fd fu (by omega) (fun j hj => absurd hj (by omega)) (fun j hj => absurd hj (by omega)) (fun j hj => absurd hj (by omega)) (Nat.lt_succ_self _)
set_option maxHeartbeats 4000000 in
set_option maxRecDepth 100000 in
theorem c_B_init (M : KM) (h : Nat)  : kCV M yX0_init cX0_init 1 1 3 18 [cO 0 h [.int (zI 0), .null, .null, .null]] [.ref h] (fun u : Nat × Nat × Nat => True) (fun u => [cO 0 h [.int (zI 0), .ref u.1, .ref u.2.1, .ref u.2.2], cI M u.1 6 (fun _ => 0), cI M u.2.1 6 (fun _ => 0), cZ M u.2.2 6 (fun _ => 0)]) := by
  refine kCV.of [(0, .ref h)] (by decide) (Nat.le_of_ble_eq_true rfl) rfl (fun E gg gn hret => ?_)
  refine z_aload_n (pc := 0) 0 gg dX0_init_0 rfl rfl ?_
  refine z_obj (pc := 1) gg dX0_init_1 ml_X0_3 oi_1 oi_2 (by decide) (Nat.le_of_ble_eq_true rfl) ?_
  refine z_aload_n (pc := 4) 0 gg dX0_init_4 rfl rfl ?_
  refine z_iconst (pc := 5) gg dX0_init_5 ?_
  refine z_put (pc := 6) 0 [cO 0 h [.int (zI 0), .null, .null, .null]] gg fp_X0_9 dX0_init_6 rfl rfl rfl (Nat.le_of_ble_eq_true rfl) rfl ?_
  refine z_aload_n (pc := 9) 0 gg dX0_init_9 rfl rfl ?_
  refine z_bipush (pc := 10) gg dX0_init_10 (by decide +kernel) ?_
  refine z_newaI (pc := 12) gg dX0_init_12 ar_I rfl (by decide) (Nat.le_of_ble_eq_true rfl) (Nat.le_of_ble_eq_true rfl) (fun q1 => ?_)
  show kV M E 1 _ _ [cO 0 h [.int (zI 0), .null, .null, .null], cI M q1 6 (fun _ => 0)] _ _ _
  refine z_putF (pc := 14) 0 [cO 0 h [.int (zI 0), .ref q1, .null, .null], cI M q1 6 (fun _ => 0)] gg gn fp_X0_15 dX0_init_14 rfl rfl rfl (Nat.le_of_ble_eq_true rfl) rfl ?_
  refine z_aload_n (pc := 17) 0 gg dX0_init_17 rfl rfl ?_
  refine z_bipush (pc := 18) gg dX0_init_18 (by decide +kernel) ?_
  refine z_newaI (pc := 20) gg dX0_init_20 ar_I rfl (by decide) (Nat.le_of_ble_eq_true rfl) (Nat.le_of_ble_eq_true rfl) (fun q2 => ?_)
  show kV M E 1 _ _ [cO 0 h [.int (zI 0), .ref q1, .null, .null], cI M q1 6 (fun _ => 0), cI M q2 6 (fun _ => 0)] _ _ _
  refine z_putF (pc := 22) 0 [cO 0 h [.int (zI 0), .ref q1, .ref q2, .null], cI M q1 6 (fun _ => 0), cI M q2 6 (fun _ => 0)] gg gn fp_X0_19 dX0_init_22 rfl rfl rfl (Nat.le_of_ble_eq_true rfl) rfl ?_
  refine z_aload_n (pc := 25) 0 gg dX0_init_25 rfl rfl ?_
  refine z_bipush (pc := 26) gg dX0_init_26 (by decide +kernel) ?_
  refine z_newaZ (pc := 28) gg dX0_init_28 ar_Z rfl (by decide) (Nat.le_of_ble_eq_true rfl) (Nat.le_of_ble_eq_true rfl) (fun q3 => ?_)
  show kV M E 1 _ _ [cO 0 h [.int (zI 0), .ref q1, .ref q2, .null], cI M q1 6 (fun _ => 0), cI M q2 6 (fun _ => 0), cZ M q3 6 (fun _ => 0)] _ _ _
  refine z_putF (pc := 30) 0 [cO 0 h [.int (zI 0), .ref q1, .ref q2, .ref q3], cI M q1 6 (fun _ => 0), cI M q2 6 (fun _ => 0), cZ M q3 6 (fun _ => 0)] gg gn fp_X0_22 dX0_init_30 rfl rfl rfl (Nat.le_of_ble_eq_true rfl) rfl ?_
  exact hret (q1, q2, q3) 33 _ _ _ (Nat.le_of_ble_eq_true rfl) (Nat.le_of_ble_eq_true rfl) dX0_init_33 trivial
end
section
set_option maxHeartbeats 4000000 in
set_option maxRecDepth 100000 in
theorem c_L_has (M : KM) (h g n : Nat) (fg : Nat → Int) (b : Int) (hn : n ≤ 8) (hb : zR b) : kCI M yX4_has cX4_has 2 .boolean 0 0 0 [cO 4 h [.int (zI (n : Int)), .ref g], cI M g 8 fg] [.ref h, .int (zI b)] (fun z (u : Unit) => (z = 1 ∧ 0 ≤ b ∧ b < n) ∨ (z = 0 ∧ (b < 0 ∨ (n : Int) ≤ b))) (fun u => [cO 4 h [.int (zI (n : Int)), .ref g], cI M g 8 fg]) := by
  refine kCI.of [(0, .ref h), (1, .int (zI b))] (by decide) (Nat.le_of_ble_eq_true rfl) rfl (fun E gg hret => ?_)
  have r1_hb := hb.1
  have r2_hb := hb.2
  refine z_iload_n (pc := 0) 1 gg dX4_has_0 rfl rfl ?_
  refine z_if_lt (pc := 1) 16 gg dX4_has_1 (by decide) ⟨by omega, by omega⟩ (fun h1 => ?_) (fun h1 => ?_)
  · refine z_iconst (pc := 16) gg dX4_has_16 ?_
    exact hret 0 () 17 _ _ _ (Nat.le_of_ble_eq_true rfl) (Nat.le_of_ble_eq_true rfl) dX4_has_17 (zB01 (by omega)) (by omega)
  · refine z_iload_n (pc := 4) 1 gg dX4_has_4 rfl rfl ?_
    refine z_aload_n (pc := 5) 0 gg dX4_has_5 rfl rfl ?_
    refine z_get (pc := 6) 0 gg fl_X4_9 dX4_has_6 rfl rfl ?_
    refine z_icmp_ge (pc := 9) 16 gg dX4_has_9 (by decide) ⟨by omega, by omega⟩ ⟨by omega, by omega⟩ (fun h9 => ?_) (fun h9 => ?_)
    · refine z_iconst (pc := 16) gg dX4_has_16 ?_
      exact hret 0 () 17 _ _ _ (Nat.le_of_ble_eq_true rfl) (Nat.le_of_ble_eq_true rfl) dX4_has_17 (zB01 (by omega)) (by omega)
    · refine z_iconst (pc := 12) gg dX4_has_12 ?_
      refine z_goto (pc := 13) 17 gg dX4_has_13 (by decide) ?_
      exact hret 1 () 17 _ _ _ (Nat.le_of_ble_eq_true rfl) (Nat.le_of_ble_eq_true rfl) dX4_has_17 (zB01 (by omega)) (by omega)
set_option maxHeartbeats 4000000 in
set_option maxRecDepth 100000 in
theorem c_L_add_ok (M : KM) (h g n : Nat) (fg : Nat → Int) (x : Int) (hn : n < 8) (hx : 1 ≤ x ∧ x ≤ 100000) : kCI M yX4_add cX4_add 2 .int 0 0 0 [cO 4 h [.int (zI (n : Int)), .ref g], cI M g 8 fg] [.ref h, .int (zI x)] (fun z (u : Unit) => z = n) (fun u => [cO 4 h [.int (zI ((n : Int) + 1)), .ref g], cI M g 8 (zU fg n x)]) := by
  refine kCI.of [(0, .ref h), (1, .int (zI x))] (by decide) (Nat.le_of_ble_eq_true rfl) rfl (fun E gg hret => ?_)
  refine z_aload_n (pc := 0) 0 gg dX4_add_0 rfl rfl ?_
  refine z_get (pc := 1) 0 gg fl_X4_9 dX4_add_1 rfl rfl ?_
  refine z_bipush (pc := 4) gg dX4_add_4 (by decide +kernel) ?_
  refine z_icmp_ge (pc := 6) 20 gg dX4_add_6 (by decide) ⟨by omega, by omega⟩ ⟨by omega, by omega⟩ (fun h6 => ?_) (fun h6 => ?_)
  · exfalso; omega
  · refine z_iload_n (pc := 9) 1 gg dX4_add_9 rfl rfl ?_
    refine z_iconst (pc := 10) gg dX4_add_10 ?_
    refine z_icmp_lt (pc := 11) 20 gg dX4_add_11 (by decide) ⟨by omega, by omega⟩ ⟨by omega, by omega⟩ (fun h11 => ?_) (fun h11 => ?_)
    · exfalso; omega
    · refine z_iload_n (pc := 14) 1 gg dX4_add_14 rfl rfl ?_
      refine z_ldc (pc := 15) (n := 100000) gg dX4_add_15 kc_X4_19 (by decide +kernel) ?_
      refine z_icmp_le (pc := 17) 22 gg dX4_add_17 (by decide) ⟨by omega, by omega⟩ ⟨by omega, by omega⟩ (fun h17 => ?_) (fun h17 => ?_)
      · refine z_aload_n (pc := 22) 0 gg dX4_add_22 rfl rfl ?_
        refine z_get (pc := 23) 0 gg fl_X4_15 dX4_add_23 rfl rfl ?_
        refine z_aload_n (pc := 26) 0 gg dX4_add_26 rfl rfl ?_
        refine z_get (pc := 27) 0 gg fl_X4_9 dX4_add_27 rfl rfl ?_
        refine z_iload_n (pc := 30) 1 gg dX4_add_30 rfl rfl ?_
        refine z_iast (pc := 31) 1 n [cO 4 h [.int (zI (n : Int)), .ref g], cI M g 8 (zU fg n x)] gg dX4_add_31 rfl (by omega) (by omega) (by decide) rfl ?_
        refine z_aload_n (pc := 32) 0 gg dX4_add_32 rfl rfl ?_
        refine z_dup (pc := 33) gg dX4_add_33 rfl ?_
        refine z_get (pc := 34) 0 gg fl_X4_9 dX4_add_34 rfl rfl ?_
        refine z_iconst (pc := 37) gg dX4_add_37 ?_
        refine z_iadd (pc := 38) gg dX4_add_38 ?_
        refine z_put (pc := 39) 0 [cO 4 h [.int (zI ((n : Int) + 1)), .ref g], cI M g 8 (zU fg n x)] gg fp_X4_9 dX4_add_39 rfl rfl rfl (Nat.le_of_ble_eq_true rfl) rfl ?_
        refine z_aload_n (pc := 42) 0 gg dX4_add_42 rfl rfl ?_
        refine z_get (pc := 43) 0 gg fl_X4_9 dX4_add_43 rfl rfl ?_
        refine z_iconst (pc := 46) gg dX4_add_46 ?_
        refine z_isub (pc := 47) gg dX4_add_47 ?_
        exact hret (((n : Int) + 1) - 1) () 48 _ _ _ (Nat.le_of_ble_eq_true rfl) (Nat.le_of_ble_eq_true rfl) dX4_add_48 rfl (by omega)
      · exfalso; omega
set_option maxHeartbeats 4000000 in
set_option maxRecDepth 100000 in
theorem c_L_add_no (M : KM) (h g n : Nat) (fg : Nat → Int) (x : Int) (hn : n ≤ 8) (hx : n = 8 ∨ x < 1 ∨ 100000 < x) (hr : zR x) : kCI M yX4_add cX4_add 2 .int 0 0 0 [cO 4 h [.int (zI (n : Int)), .ref g], cI M g 8 fg] [.ref h, .int (zI x)] (fun z (u : Unit) => z = -1) (fun u => [cO 4 h [.int (zI (n : Int)), .ref g], cI M g 8 fg]) := by
  refine kCI.of [(0, .ref h), (1, .int (zI x))] (by decide) (Nat.le_of_ble_eq_true rfl) rfl (fun E gg hret => ?_)
  have r1_hr := hr.1
  have r2_hr := hr.2
  refine z_aload_n (pc := 0) 0 gg dX4_add_0 rfl rfl ?_
  refine z_get (pc := 1) 0 gg fl_X4_9 dX4_add_1 rfl rfl ?_
  refine z_bipush (pc := 4) gg dX4_add_4 (by decide +kernel) ?_
  refine z_icmp_ge (pc := 6) 20 gg dX4_add_6 (by decide) ⟨by omega, by omega⟩ ⟨by omega, by omega⟩ (fun h6 => ?_) (fun h6 => ?_)
  · refine z_iconst (pc := 20) gg dX4_add_20 ?_
    exact hret (-1) () 21 _ _ _ (Nat.le_of_ble_eq_true rfl) (Nat.le_of_ble_eq_true rfl) dX4_add_21 rfl (by omega)
  · refine z_iload_n (pc := 9) 1 gg dX4_add_9 rfl rfl ?_
    refine z_iconst (pc := 10) gg dX4_add_10 ?_
    refine z_icmp_lt (pc := 11) 20 gg dX4_add_11 (by decide) ⟨by omega, by omega⟩ ⟨by omega, by omega⟩ (fun h11 => ?_) (fun h11 => ?_)
    · refine z_iconst (pc := 20) gg dX4_add_20 ?_
      exact hret (-1) () 21 _ _ _ (Nat.le_of_ble_eq_true rfl) (Nat.le_of_ble_eq_true rfl) dX4_add_21 rfl (by omega)
    · refine z_iload_n (pc := 14) 1 gg dX4_add_14 rfl rfl ?_
      refine z_ldc (pc := 15) (n := 100000) gg dX4_add_15 kc_X4_19 (by decide +kernel) ?_
      refine z_icmp_le (pc := 17) 22 gg dX4_add_17 (by decide) ⟨by omega, by omega⟩ ⟨by omega, by omega⟩ (fun h17 => ?_) (fun h17 => ?_)
      · exfalso; omega
      · refine z_iconst (pc := 20) gg dX4_add_20 ?_
        exact hret (-1) () 21 _ _ _ (Nat.le_of_ble_eq_true rfl) (Nat.le_of_ble_eq_true rfl) dX4_add_21 rfl (by omega)
set_option maxHeartbeats 4000000 in
set_option maxRecDepth 100000 in
theorem c_L_gramsOf (M : KM) (h g n : Nat) (fg : Nat → Int) (b : Int) (hn : n ≤ 8) (hb : zR b) : kCI M yX4_gramsOf cX4_gramsOf 2 .int 1 0 0 [cO 4 h [.int (zI (n : Int)), .ref g], cI M g 8 fg] [.ref h, .int (zI b)] (fun z (u : Unit) => (0 ≤ b ∧ b < n ∧ z = fg b.toNat) ∨ ((b < 0 ∨ (n : Int) ≤ b) ∧ z = -1)) (fun u => [cO 4 h [.int (zI (n : Int)), .ref g], cI M g 8 fg]) := by
  refine kCI.of [(0, .ref h), (1, .int (zI b))] (by decide) (Nat.le_of_ble_eq_true rfl) rfl (fun E gg hret => ?_)
  have r1_hb := hb.1
  have r2_hb := hb.2
  refine z_aload_n (pc := 0) 0 gg dX4_gramsOf_0 rfl rfl ?_
  refine z_iload_n (pc := 1) 1 gg dX4_gramsOf_1 rfl rfl ?_
  refine z_callWi (pc := 2) (As := [.int (zI b)]) (st := []) gg (c_L_has M h g n fg b (by first | assumption | omega | exact ⟨by omega, by omega⟩) (by first | assumption | omega | exact ⟨by omega, by omega⟩)) yv_4_has ml_X4_20 dX4_gramsOf_2 (by decide) (Nat.le_of_ble_eq_true rfl) (Nat.le_of_ble_eq_true rfl) (Nat.le_of_ble_eq_true rfl) rfl rfl rfl (fun z2 u2 hz2 => ?_)
  refine z_if_eq (pc := 5) 17 gg dX4_gramsOf_5 (by decide) ⟨by omega, by omega⟩ (fun h5 => ?_) (fun h5 => ?_)
  · refine z_iconst (pc := 17) gg dX4_gramsOf_17 ?_
    exact hret (-1) () 18 _ _ _ (Nat.le_of_ble_eq_true rfl) (Nat.le_of_ble_eq_true rfl) dX4_gramsOf_18 rfl (by omega)
  · refine z_aload_n (pc := 8) 0 gg dX4_gramsOf_8 rfl rfl ?_
    refine z_get (pc := 9) 0 gg fl_X4_15 dX4_gramsOf_9 rfl rfl ?_
    refine z_iload_n (pc := 12) 1 gg dX4_gramsOf_12 rfl rfl ?_
    refine z_iald (pc := 13) 1 b.toNat gg dX4_gramsOf_13 rfl (by omega) (by omega) (by decide) ?_
    refine z_goto (pc := 14) 18 gg dX4_gramsOf_14 (by decide) ?_
    exact hret (fg b.toNat) () 18 _ _ _ (Nat.le_of_ble_eq_true rfl) (Nat.le_of_ble_eq_true rfl) dX4_gramsOf_18 rfl (by omega)
set_option maxHeartbeats 4000000 in
set_option maxRecDepth 100000 in
theorem c_L_total (M : KM) (h g n : Nat) (fg : Nat → Int) (hn : n ≤ 8) (hf : ∀ j, j < 8 → 0 ≤ fg j ∧ fg j ≤ 100000) : kCI M yX4_total cX4_total 3 .int 0 0 0 [cO 4 h [.int (zI (n : Int)), .ref g], cI M g 8 fg] [.ref h] (fun z (u : Unit) => z = zS fg n) (fun u => [cO 4 h [.int (zI (n : Int)), .ref g], cI M g 8 fg]) := by
  refine kCI.of [(0, .ref h)] (by decide) (Nat.le_of_ble_eq_true rfl) rfl (fun E gg hret => ?_)
  refine z_iconst (pc := 0) gg dX4_total_0 ?_
  refine z_istore_n (pc := 1) [(1, .int (zI 0)), (0, .ref h)] gg dX4_total_1 rfl (Nat.le_of_ble_eq_true rfl) rfl ?_
  refine z_iconst (pc := 2) gg dX4_total_2 ?_
  refine z_istore_n (pc := 3) [(2, .int (zI 0)), (1, .int (zI 0)), (0, .ref h)] gg dX4_total_3 rfl (Nat.le_of_ble_eq_true rfl) rfl ?_
  have loop4 : ∀ (k4 : Nat) (i s : Int), (0 ≤ i ∧ i ≤ n) → (s = zS fg i.toNat) → (n : Int).toNat - i.toNat < k4 → kV M E 3 0 0 [cO 4 h [.int (zI (n : Int)), .ref g], cI M g 8 fg] [(2, .int (zI i)), (1, .int (zI s)), (0, .ref h)] 4 [] := by
    intro k4
    induction k4 with
    | zero => intro i s hi hs hm4; exact absurd hm4 (Nat.not_lt_zero _)
    | succ k4 ih4 =>
      intro i s hi hs hm4
      refine z_iload_n (pc := 4) 0 gg dX4_total_4 rfl rfl ?_
      refine z_aload_n (pc := 5) 2 gg dX4_total_5 rfl rfl ?_
      refine z_get (pc := 6) 0 gg fl_X4_9 dX4_total_6 rfl rfl ?_
      refine z_icmp_ge (pc := 9) 33 gg dX4_total_9 (by decide) ⟨by omega, by omega⟩ ⟨by omega, by omega⟩ (fun h9 => ?_) (fun h9 => ?_)
      · refine z_iload_n (pc := 33) 1 gg dX4_total_33 rfl rfl ?_
        exact hret s () 34 _ _ _ (Nat.le_of_ble_eq_true rfl) (Nat.le_of_ble_eq_true rfl) dX4_total_34 rfl (by rw [hs]; congr 1; omega)
      · refine z_iload_n (pc := 12) 0 gg dX4_total_12 rfl rfl ?_
        refine z_bipush (pc := 13) gg dX4_total_13 (by decide +kernel) ?_
        refine z_icmp_ge (pc := 15) 33 gg dX4_total_15 (by decide) ⟨by omega, by omega⟩ ⟨by omega, by omega⟩ (fun h15 => ?_) (fun h15 => ?_)
        · exfalso; omega
        · refine z_iload_n (pc := 18) 1 gg dX4_total_18 rfl rfl ?_
          refine z_aload_n (pc := 19) 2 gg dX4_total_19 rfl rfl ?_
          refine z_get (pc := 20) 0 gg fl_X4_15 dX4_total_20 rfl rfl ?_
          refine z_iload_n (pc := 23) 0 gg dX4_total_23 rfl rfl ?_
          refine z_iald (pc := 24) 1 i.toNat gg dX4_total_24 rfl (by omega) (by omega) (by decide) ?_
          refine z_iadd (pc := 25) gg dX4_total_25 ?_
          refine z_istore_n (pc := 26) [(1, .int (zI (s + (fg i.toNat)))), (2, .int (zI i)), (0, .ref h)] gg dX4_total_26 rfl (Nat.le_of_ble_eq_true rfl) rfl ?_
          refine z_iinc (pc := 27) 1 [(2, .int (zI (i + 1))), (1, .int (zI (s + (fg i.toNat)))), (0, .ref h)] gg dX4_total_27 rfl (Nat.le_of_ble_eq_true rfl) rfl ?_
          refine z_goto (pc := 30) 4 gg dX4_total_30 (by decide) ?_
          exact ih4 (i + 1) (s + fg i.toNat) (by omega) (by rw [zS_step (by omega), hs]) (by omega)
  exact loop4 _ 0 0 (by omega) rfl (Nat.lt_succ_self _)
set_option maxHeartbeats 4000000 in
set_option maxRecDepth 100000 in
theorem c_L_draw (M : KM) (h g n : Nat) (fg : Nat → Int) (q : Int) (hn : n ≤ 8) (hf : ∀ j, j < 8 → 0 ≤ fg j ∧ fg j ≤ 100000) (hq : 0 ≤ q ∧ q ≤ 100000) : kCI M yX4_draw cX4_draw 6 .int 1 0 0 [cO 4 h [.int (zI (n : Int)), .ref g], cI M g 8 fg] [.ref h, .int (zI q)] (fun z (u : Unit) => z = dB fg q n) (fun u => [cO 4 h [.int (zI (n : Int)), .ref g], cI M g 8 (dG fg q n)]) := by
  refine kCI.of [(0, .ref h), (1, .int (zI q))] (by decide) (Nat.le_of_ble_eq_true rfl) rfl (fun E gg hret => ?_)
  refine z_iconst (pc := 0) gg dX4_draw_0 ?_
  refine z_istore_n (pc := 1) [(2, .int (zI 0)), (0, .ref h), (1, .int (zI q))] gg dX4_draw_1 rfl (Nat.le_of_ble_eq_true rfl) rfl ?_
  refine z_iload_n (pc := 2) 2 gg dX4_draw_2 rfl rfl ?_
  refine z_istore_n (pc := 3) [(3, .int (zI q)), (2, .int (zI 0)), (0, .ref h), (1, .int (zI q))] gg dX4_draw_3 rfl (Nat.le_of_ble_eq_true rfl) rfl ?_
  refine z_iconst (pc := 4) gg dX4_draw_4 ?_
  refine z_istore (pc := 5) [(4, .int (zI 0)), (3, .int (zI q)), (2, .int (zI 0)), (0, .ref h), (1, .int (zI q))] gg dX4_draw_5 (Nat.le_of_ble_eq_true rfl) rfl ?_
  have loop7 : ∀ (k7 : Nat) (i o b : Int) (f : Nat → Int), (0 ≤ i ∧ i ≤ n) → (o = dL fg q i.toNat) → (b = dB fg q i.toNat) → (f = dG fg q i.toNat) → (n : Int).toNat - i.toNat < k7 → kV M E 6 0 0 [cO 4 h [.int (zI (n : Int)), .ref g], cI M g 8 f] [(4, .int (zI i)), (3, .int (zI o)), (2, .int (zI b)), (0, .ref h), (1, .int (zI q))] 7 [] := by
    intro k7
    induction k7 with
    | zero => intro i o b f hi ho hb hg hm7; exact absurd hm7 (Nat.not_lt_zero _)
    | succ k7 ih7 =>
      intro i o b f hi ho hb hg hm7
      have e0 := dL_nn (f := fg) (q := q) hq.1 (n := i.toNat) (fun j hj => (hf j (by omega)).1)
      have eR := dB_R fg q i.toNat
      refine z_iload (pc := 7) 0 gg dX4_draw_7 rfl ?_
      refine z_aload_n (pc := 9) 3 gg dX4_draw_9 rfl rfl ?_
      refine z_get (pc := 10) 0 gg fl_X4_9 dX4_draw_10 rfl rfl ?_
      refine z_icmp_ge (pc := 13) 71 gg dX4_draw_13 (by decide) ⟨by omega, by omega⟩ ⟨by omega, by omega⟩ (fun h13 => ?_) (fun h13 => ?_)
      · refine z_iload_n (pc := 71) 2 gg dX4_draw_71 rfl rfl ?_
        have en : i.toNat = n := by omega
        rw [en] at hg
        subst hg
        exact hret b () 72 _ _ _ (Nat.le_of_ble_eq_true rfl) (Nat.le_of_ble_eq_true rfl) dX4_draw_72 rfl (by rw [hb, en])
      · refine z_iload (pc := 16) 0 gg dX4_draw_16 rfl ?_
        refine z_bipush (pc := 18) gg dX4_draw_18 (by decide +kernel) ?_
        refine z_icmp_ge (pc := 20) 71 gg dX4_draw_20 (by decide) ⟨by omega, by omega⟩ ⟨by omega, by omega⟩ (fun h20 => ?_) (fun h20 => ?_)
        · exfalso; omega
        · refine z_iload_n (pc := 23) 1 gg dX4_draw_23 rfl rfl ?_
          refine z_aload_n (pc := 24) 3 gg dX4_draw_24 rfl rfl ?_
          refine z_get (pc := 25) 0 gg fl_X4_15 dX4_draw_25 rfl rfl ?_
          refine z_iload (pc := 28) 0 gg dX4_draw_28 rfl ?_
          refine z_iald (pc := 30) 1 i.toNat gg dX4_draw_30 rfl (by omega) (by omega) (by decide) ?_
          have ef : f i.toNat = fg i.toNat := by rw [hg, dG_at]
          have e1 := hf i.toNat (by omega)
          rw [ef]
          refine z_min (pc := 31) gg dX4_draw_31 ml_X4_24 mm_min1 mm_0 mm_min2 (by decide) (Nat.le_of_ble_eq_true rfl) (Nat.le_of_ble_eq_true rfl) (Nat.le_of_ble_eq_true rfl) ⟨by omega, by omega⟩ ⟨by omega, by omega⟩ ?_
          refine z_istore (pc := 34) [(5, .int (zI (if (fg i.toNat) < o then (fg i.toNat) else o))), (4, .int (zI i)), (3, .int (zI o)), (2, .int (zI b)), (0, .ref h), (1, .int (zI q))] gg dX4_draw_34 (Nat.le_of_ble_eq_true rfl) rfl ?_
          have e9 : 0 ≤ (if fg i.toNat < o then fg i.toNat else o) ∧ (if fg i.toNat < o then fg i.toNat else o) ≤ 100000 := by split <;> omega
          refine z_iload (pc := 36) 0 gg dX4_draw_36 rfl ?_
          refine z_if_le (pc := 38) 65 gg dX4_draw_38 (by decide) ⟨by omega, by omega⟩ (fun h38 => ?_) (fun h38 => ?_)
          · refine z_iinc (pc := 65) 1 [(4, .int (zI (i + 1))), (5, .int (zI (if (fg i.toNat) < o then (fg i.toNat) else o))), (3, .int (zI o)), (2, .int (zI b)), (0, .ref h), (1, .int (zI q))] gg dX4_draw_65 rfl (Nat.le_of_ble_eq_true rfl) rfl ?_
            refine z_goto (pc := 68) 7 gg dX4_draw_68 (by decide) ?_
            refine z_lv [(4, .int (zI (i + 1))), (3, .int (zI o)), (2, .int (zI b)), (0, .ref h), (1, .int (zI q))] [0, 2, 3, 4, 5] rfl ?_
            exact ih7 (i + 1) o b f (by omega) (by rw [dL_step (by omega)]; unfold dV; rw [← ho]; omega) (by rw [dB_step (by omega), ← hb]; unfold dV; rw [← ho, if_neg (by omega)]) (by rw [dG_stepz (by omega) (by unfold dV; rw [← ho]; omega), hg]) (by omega)
          · refine z_aload_n (pc := 41) 4 gg dX4_draw_41 rfl rfl ?_
            refine z_get (pc := 42) 0 gg fl_X4_15 dX4_draw_42 rfl rfl ?_
            refine z_iload (pc := 45) 1 gg dX4_draw_45 rfl ?_
            refine z_dup2 (pc := 47) gg dX4_draw_47 rfl rfl ?_
            refine z_iald (pc := 48) 1 i.toNat gg dX4_draw_48 rfl (by omega) (by omega) (by decide) ?_
            rw [ef]
            refine z_iload (pc := 49) 0 gg dX4_draw_49 rfl ?_
            refine z_isub (pc := 51) gg dX4_draw_51 ?_
            refine z_iast (pc := 52) 1 i.toNat [cO 4 h [.int (zI (n : Int)), .ref g], cI M g 8 (zU f i.toNat ((fg i.toNat) - (if (fg i.toNat) < o then (fg i.toNat) else o)))] gg dX4_draw_52 rfl (by omega) (by omega) (by decide) rfl ?_
            refine z_iload_n (pc := 53) 2 gg dX4_draw_53 rfl rfl ?_
            refine z_iload (pc := 54) 0 gg dX4_draw_54 rfl ?_
            refine z_isub (pc := 56) gg dX4_draw_56 ?_
            refine z_istore_n (pc := 57) [(3, .int (zI (o - (if (fg i.toNat) < o then (fg i.toNat) else o)))), (5, .int (zI (if (fg i.toNat) < o then (fg i.toNat) else o))), (4, .int (zI i)), (2, .int (zI b)), (0, .ref h), (1, .int (zI q))] gg dX4_draw_57 rfl (Nat.le_of_ble_eq_true rfl) rfl ?_
            refine z_iload_n (pc := 58) 3 gg dX4_draw_58 rfl rfl ?_
            refine z_iconst (pc := 59) gg dX4_draw_59 ?_
            refine z_iload (pc := 60) 2 gg dX4_draw_60 rfl ?_
            refine z_ishl (pc := 62) gg dX4_draw_62 ?_
            refine z_ior (pc := 63) gg dX4_draw_63 ?_
            refine z_istore_n (pc := 64) [(2, .int (zI (zOr b (zShl 1 i)))), (3, .int (zI (o - (if (fg i.toNat) < o then (fg i.toNat) else o)))), (5, .int (zI (if (fg i.toNat) < o then (fg i.toNat) else o))), (4, .int (zI i)), (0, .ref h), (1, .int (zI q))] gg dX4_draw_64 rfl (Nat.le_of_ble_eq_true rfl) rfl ?_
            refine z_iinc (pc := 65) 3 [(4, .int (zI (i + 1))), (2, .int (zI (zOr b (zShl 1 i)))), (3, .int (zI (o - (if (fg i.toNat) < o then (fg i.toNat) else o)))), (5, .int (zI (if (fg i.toNat) < o then (fg i.toNat) else o))), (0, .ref h), (1, .int (zI q))] gg dX4_draw_65 rfl (Nat.le_of_ble_eq_true rfl) rfl ?_
            refine z_goto (pc := 68) 7 gg dX4_draw_68 (by decide) ?_
            refine z_lv [(4, .int (zI (i + 1))), (3, .int (zI (o - (if (fg i.toNat) < o then (fg i.toNat) else o)))), (2, .int (zI (zOr b (zShl 1 i)))), (0, .ref h), (1, .int (zI q))] [0, 2, 1, 4, 5] rfl ?_
            exact ih7 (i + 1) (o - (if (fg i.toNat) < o then (fg i.toNat) else o)) (zOr b (zShl 1 i)) (zU f i.toNat ((fg i.toNat) - (if (fg i.toNat) < o then (fg i.toNat) else o))) (by omega) (by rw [dL_step (by omega)]; unfold dV; rw [← ho]) (by rw [dB_step (by omega), ← hb]; unfold dV; rw [← ho, if_pos (by omega)]) (by rw [dG_step (by omega), hg]; unfold dV; rw [← ho]) (by omega)
  exact loop7 _ 0 q 0 fg (by omega) rfl rfl (dG_0 fg q).symm (Nat.lt_succ_self _)
set_option maxHeartbeats 4000000 in
set_option maxRecDepth 100000 in
theorem c_L_copyFrom (M : KM) (h g n : Nat) (fg : Nat → Int) (h2 g2 n2 : Nat) (fg2 : Nat → Int)  : kCV M yX4_copyFrom cX4_copyFrom 2 1 0 0 [cO 4 h [.int (zI (n : Int)), .ref g], cI M g 8 fg, cO 4 h2 [.int (zI (n2 : Int)), .ref g2], cI M g2 8 fg2] [.ref h, .ref h2] (fun u : Unit => True) (fun u => [cO 4 h [.int (zI (n2 : Int)), .ref g], cI M g 8 fg2, cO 4 h2 [.int (zI (n2 : Int)), .ref g2], cI M g2 8 fg2]) := by
  refine kCV.of [(0, .ref h), (1, .ref h2)] (by decide) (Nat.le_of_ble_eq_true rfl) rfl (fun E gg gn hret => ?_)
  refine z_aload_n (pc := 0) 0 gg dX4_copyFrom_0 rfl rfl ?_
  refine z_aload_n (pc := 1) 1 gg dX4_copyFrom_1 rfl rfl ?_
  refine z_get (pc := 2) 2 gg fl_X4_9 dX4_copyFrom_2 rfl rfl ?_
  refine z_put (pc := 5) 0 [cO 4 h [.int (zI (n2 : Int)), .ref g], cI M g 8 fg, cO 4 h2 [.int (zI (n2 : Int)), .ref g2], cI M g2 8 fg2] gg fp_X4_9 dX4_copyFrom_5 rfl rfl rfl (Nat.le_of_ble_eq_true rfl) rfl ?_
  refine z_aload_n (pc := 8) 1 gg dX4_copyFrom_8 rfl rfl ?_
  refine z_get (pc := 9) 2 gg fl_X4_15 dX4_copyFrom_9 rfl rfl ?_
  refine z_iconst (pc := 12) gg dX4_copyFrom_12 ?_
  refine z_aload_n (pc := 13) 0 gg dX4_copyFrom_13 rfl rfl ?_
  refine z_get (pc := 14) 0 gg fl_X4_15 dX4_copyFrom_14 rfl rfl ?_
  refine z_iconst (pc := 17) gg dX4_copyFrom_17 ?_
  refine z_bipush (pc := 18) gg dX4_copyFrom_18 (by decide +kernel) ?_
  refine z_copy (pc := 20) 3 1 [cO 4 h [.int (zI (n2 : Int)), .ref g], cI M g 8 fg2, cO 4 h2 [.int (zI (n2 : Int)), .ref g2], cI M g2 8 fg2] gg dX4_copyFrom_20 ml_X4_30 ac_1 ac_2 ac_3 (by decide) (Nat.le_of_ble_eq_true rfl) rfl rfl rfl (by decide) rfl ?_
  exact hret () 23 _ _ _ (Nat.le_of_ble_eq_true rfl) (Nat.le_of_ble_eq_true rfl) dX4_copyFrom_23 trivial
set_option maxHeartbeats 4000000 in
set_option maxRecDepth 100000 in
theorem c_L_init (M : KM) (h : Nat)  : kCV M yX4_init cX4_init 1 1 1 8 [cO 4 h [.int (zI 0), .null]] [.ref h] (fun u : Nat => True) (fun u => [cO 4 h [.int (zI 0), .ref u], cI M u 8 (fun _ => 0)]) := by
  refine kCV.of [(0, .ref h)] (by decide) (Nat.le_of_ble_eq_true rfl) rfl (fun E gg gn hret => ?_)
  refine z_aload_n (pc := 0) 0 gg dX4_init_0 rfl rfl ?_
  refine z_obj (pc := 1) gg dX4_init_1 ml_X4_3 oi_1 oi_2 (by decide) (Nat.le_of_ble_eq_true rfl) ?_
  refine z_aload_n (pc := 4) 0 gg dX4_init_4 rfl rfl ?_
  refine z_iconst (pc := 5) gg dX4_init_5 ?_
  refine z_put (pc := 6) 0 [cO 4 h [.int (zI 0), .null]] gg fp_X4_9 dX4_init_6 rfl rfl rfl (Nat.le_of_ble_eq_true rfl) rfl ?_
  refine z_aload_n (pc := 9) 0 gg dX4_init_9 rfl rfl ?_
  refine z_bipush (pc := 10) gg dX4_init_10 (by decide +kernel) ?_
  refine z_newaI (pc := 12) gg dX4_init_12 ar_I rfl (by decide) (Nat.le_of_ble_eq_true rfl) (Nat.le_of_ble_eq_true rfl) (fun q1 => ?_)
  show kV M E 1 _ _ [cO 4 h [.int (zI 0), .null], cI M q1 8 (fun _ => 0)] _ _ _
  refine z_putF (pc := 14) 0 [cO 4 h [.int (zI 0), .ref q1], cI M q1 8 (fun _ => 0)] gg gn fp_X4_15 dX4_init_14 rfl rfl rfl (Nat.le_of_ble_eq_true rfl) rfl ?_
  exact hret q1 17 _ _ _ (Nat.le_of_ble_eq_true rfl) (Nat.le_of_ble_eq_true rfl) dX4_init_17 trivial
set_option maxHeartbeats 4000000 in
set_option maxRecDepth 100000 in
theorem c_P_has (M : KM) (h g n : Nat) (fg : Nat → Int) (b : Int) (hn : n ≤ 4) (hb : zR b) : kCI M yX6_has cX6_has 2 .boolean 0 0 0 [cO 6 h [.int (zI (n : Int)), .ref g], cI M g 4 fg] [.ref h, .int (zI b)] (fun z (u : Unit) => (z = 1 ∧ 0 ≤ b ∧ b < n) ∨ (z = 0 ∧ (b < 0 ∨ (n : Int) ≤ b))) (fun u => [cO 6 h [.int (zI (n : Int)), .ref g], cI M g 4 fg]) := by
  refine kCI.of [(0, .ref h), (1, .int (zI b))] (by decide) (Nat.le_of_ble_eq_true rfl) rfl (fun E gg hret => ?_)
  have r1_hb := hb.1
  have r2_hb := hb.2
  refine z_iload_n (pc := 0) 1 gg dX6_has_0 rfl rfl ?_
  refine z_if_lt (pc := 1) 16 gg dX6_has_1 (by decide) ⟨by omega, by omega⟩ (fun h1 => ?_) (fun h1 => ?_)
  · refine z_iconst (pc := 16) gg dX6_has_16 ?_
    exact hret 0 () 17 _ _ _ (Nat.le_of_ble_eq_true rfl) (Nat.le_of_ble_eq_true rfl) dX6_has_17 (zB01 (by omega)) (by omega)
  · refine z_iload_n (pc := 4) 1 gg dX6_has_4 rfl rfl ?_
    refine z_aload_n (pc := 5) 0 gg dX6_has_5 rfl rfl ?_
    refine z_get (pc := 6) 0 gg fl_X6_9 dX6_has_6 rfl rfl ?_
    refine z_icmp_ge (pc := 9) 16 gg dX6_has_9 (by decide) ⟨by omega, by omega⟩ ⟨by omega, by omega⟩ (fun h9 => ?_) (fun h9 => ?_)
    · refine z_iconst (pc := 16) gg dX6_has_16 ?_
      exact hret 0 () 17 _ _ _ (Nat.le_of_ble_eq_true rfl) (Nat.le_of_ble_eq_true rfl) dX6_has_17 (zB01 (by omega)) (by omega)
    · refine z_iconst (pc := 12) gg dX6_has_12 ?_
      refine z_goto (pc := 13) 17 gg dX6_has_13 (by decide) ?_
      exact hret 1 () 17 _ _ _ (Nat.le_of_ble_eq_true rfl) (Nat.le_of_ble_eq_true rfl) dX6_has_17 (zB01 (by omega)) (by omega)
set_option maxHeartbeats 4000000 in
set_option maxRecDepth 100000 in
theorem c_P_add_ok (M : KM) (h g n : Nat) (fg : Nat → Int) (x : Int) (hn : n < 4) (hx : 100 ≤ x ∧ x ≤ 250) : kCI M yX6_add cX6_add 2 .int 0 0 0 [cO 6 h [.int (zI (n : Int)), .ref g], cI M g 4 fg] [.ref h, .int (zI x)] (fun z (u : Unit) => z = n) (fun u => [cO 6 h [.int (zI ((n : Int) + 1)), .ref g], cI M g 4 (zU fg n x)]) := by
  refine kCI.of [(0, .ref h), (1, .int (zI x))] (by decide) (Nat.le_of_ble_eq_true rfl) rfl (fun E gg hret => ?_)
  refine z_aload_n (pc := 0) 0 gg dX6_add_0 rfl rfl ?_
  refine z_get (pc := 1) 0 gg fl_X6_9 dX6_add_1 rfl rfl ?_
  refine z_iconst (pc := 4) gg dX6_add_4 ?_
  refine z_icmp_ge (pc := 5) 21 gg dX6_add_5 (by decide) ⟨by omega, by omega⟩ ⟨by omega, by omega⟩ (fun h5 => ?_) (fun h5 => ?_)
  · exfalso; omega
  · refine z_iload_n (pc := 8) 1 gg dX6_add_8 rfl rfl ?_
    refine z_bipush (pc := 9) gg dX6_add_9 (by decide +kernel) ?_
    refine z_icmp_lt (pc := 11) 21 gg dX6_add_11 (by decide) ⟨by omega, by omega⟩ ⟨by omega, by omega⟩ (fun h11 => ?_) (fun h11 => ?_)
    · exfalso; omega
    · refine z_iload_n (pc := 14) 1 gg dX6_add_14 rfl rfl ?_
      refine z_sipush (pc := 15) gg dX6_add_15 (by decide +kernel) ?_
      refine z_icmp_le (pc := 18) 23 gg dX6_add_18 (by decide) ⟨by omega, by omega⟩ ⟨by omega, by omega⟩ (fun h18 => ?_) (fun h18 => ?_)
      · refine z_aload_n (pc := 23) 0 gg dX6_add_23 rfl rfl ?_
        refine z_get (pc := 24) 0 gg fl_X6_15 dX6_add_24 rfl rfl ?_
        refine z_aload_n (pc := 27) 0 gg dX6_add_27 rfl rfl ?_
        refine z_get (pc := 28) 0 gg fl_X6_9 dX6_add_28 rfl rfl ?_
        refine z_iload_n (pc := 31) 1 gg dX6_add_31 rfl rfl ?_
        refine z_iast (pc := 32) 1 n [cO 6 h [.int (zI (n : Int)), .ref g], cI M g 4 (zU fg n x)] gg dX6_add_32 rfl (by omega) (by omega) (by decide) rfl ?_
        refine z_aload_n (pc := 33) 0 gg dX6_add_33 rfl rfl ?_
        refine z_dup (pc := 34) gg dX6_add_34 rfl ?_
        refine z_get (pc := 35) 0 gg fl_X6_9 dX6_add_35 rfl rfl ?_
        refine z_iconst (pc := 38) gg dX6_add_38 ?_
        refine z_iadd (pc := 39) gg dX6_add_39 ?_
        refine z_put (pc := 40) 0 [cO 6 h [.int (zI ((n : Int) + 1)), .ref g], cI M g 4 (zU fg n x)] gg fp_X6_9 dX6_add_40 rfl rfl rfl (Nat.le_of_ble_eq_true rfl) rfl ?_
        refine z_aload_n (pc := 43) 0 gg dX6_add_43 rfl rfl ?_
        refine z_get (pc := 44) 0 gg fl_X6_9 dX6_add_44 rfl rfl ?_
        refine z_iconst (pc := 47) gg dX6_add_47 ?_
        refine z_isub (pc := 48) gg dX6_add_48 ?_
        exact hret (((n : Int) + 1) - 1) () 49 _ _ _ (Nat.le_of_ble_eq_true rfl) (Nat.le_of_ble_eq_true rfl) dX6_add_49 rfl (by omega)
      · exfalso; omega
set_option maxHeartbeats 4000000 in
set_option maxRecDepth 100000 in
theorem c_P_add_no (M : KM) (h g n : Nat) (fg : Nat → Int) (x : Int) (hn : n ≤ 4) (hx : n = 4 ∨ x < 100 ∨ 250 < x) (hr : zR x) : kCI M yX6_add cX6_add 2 .int 0 0 0 [cO 6 h [.int (zI (n : Int)), .ref g], cI M g 4 fg] [.ref h, .int (zI x)] (fun z (u : Unit) => z = -1) (fun u => [cO 6 h [.int (zI (n : Int)), .ref g], cI M g 4 fg]) := by
  refine kCI.of [(0, .ref h), (1, .int (zI x))] (by decide) (Nat.le_of_ble_eq_true rfl) rfl (fun E gg hret => ?_)
  have r1_hr := hr.1
  have r2_hr := hr.2
  refine z_aload_n (pc := 0) 0 gg dX6_add_0 rfl rfl ?_
  refine z_get (pc := 1) 0 gg fl_X6_9 dX6_add_1 rfl rfl ?_
  refine z_iconst (pc := 4) gg dX6_add_4 ?_
  refine z_icmp_ge (pc := 5) 21 gg dX6_add_5 (by decide) ⟨by omega, by omega⟩ ⟨by omega, by omega⟩ (fun h5 => ?_) (fun h5 => ?_)
  · refine z_iconst (pc := 21) gg dX6_add_21 ?_
    exact hret (-1) () 22 _ _ _ (Nat.le_of_ble_eq_true rfl) (Nat.le_of_ble_eq_true rfl) dX6_add_22 rfl (by omega)
  · refine z_iload_n (pc := 8) 1 gg dX6_add_8 rfl rfl ?_
    refine z_bipush (pc := 9) gg dX6_add_9 (by decide +kernel) ?_
    refine z_icmp_lt (pc := 11) 21 gg dX6_add_11 (by decide) ⟨by omega, by omega⟩ ⟨by omega, by omega⟩ (fun h11 => ?_) (fun h11 => ?_)
    · refine z_iconst (pc := 21) gg dX6_add_21 ?_
      exact hret (-1) () 22 _ _ _ (Nat.le_of_ble_eq_true rfl) (Nat.le_of_ble_eq_true rfl) dX6_add_22 rfl (by omega)
    · refine z_iload_n (pc := 14) 1 gg dX6_add_14 rfl rfl ?_
      refine z_sipush (pc := 15) gg dX6_add_15 (by decide +kernel) ?_
      refine z_icmp_le (pc := 18) 23 gg dX6_add_18 (by decide) ⟨by omega, by omega⟩ ⟨by omega, by omega⟩ (fun h18 => ?_) (fun h18 => ?_)
      · exfalso; omega
      · refine z_iconst (pc := 21) gg dX6_add_21 ?_
        exact hret (-1) () 22 _ _ _ (Nat.le_of_ble_eq_true rfl) (Nat.le_of_ble_eq_true rfl) dX6_add_22 rfl (by omega)
set_option maxHeartbeats 4000000 in
set_option maxRecDepth 100000 in
theorem c_P_heatOf (M : KM) (h g n : Nat) (fg : Nat → Int) (b : Int) (hn : n ≤ 4) (hb : 0 ≤ b ∧ b < n) : kCI M yX6_heatOf cX6_heatOf 2 .int 1 0 0 [cO 6 h [.int (zI (n : Int)), .ref g], cI M g 4 fg] [.ref h, .int (zI b)] (fun z (u : Unit) => z = fg b.toNat) (fun u => [cO 6 h [.int (zI (n : Int)), .ref g], cI M g 4 fg]) := by
  refine kCI.of [(0, .ref h), (1, .int (zI b))] (by decide) (Nat.le_of_ble_eq_true rfl) rfl (fun E gg hret => ?_)
  refine z_aload_n (pc := 0) 0 gg dX6_heatOf_0 rfl rfl ?_
  refine z_iload_n (pc := 1) 1 gg dX6_heatOf_1 rfl rfl ?_
  refine z_callWi (pc := 2) (As := [.int (zI b)]) (st := []) gg (c_P_has M h g n fg b (by first | assumption | omega | exact ⟨by omega, by omega⟩) (by first | assumption | omega | exact ⟨by omega, by omega⟩)) yv_6_has ml_X6_19 dX6_heatOf_2 (by decide) (Nat.le_of_ble_eq_true rfl) (Nat.le_of_ble_eq_true rfl) (Nat.le_of_ble_eq_true rfl) rfl rfl rfl (fun z2 u2 hz2 => ?_)
  refine z_if_eq (pc := 5) 17 gg dX6_heatOf_5 (by decide) ⟨by omega, by omega⟩ (fun h5 => ?_) (fun h5 => ?_)
  · exfalso; omega
  · refine z_aload_n (pc := 8) 0 gg dX6_heatOf_8 rfl rfl ?_
    refine z_get (pc := 9) 0 gg fl_X6_15 dX6_heatOf_9 rfl rfl ?_
    refine z_iload_n (pc := 12) 1 gg dX6_heatOf_12 rfl rfl ?_
    refine z_iald (pc := 13) 1 b.toNat gg dX6_heatOf_13 rfl (by omega) (by omega) (by decide) ?_
    refine z_goto (pc := 14) 18 gg dX6_heatOf_14 (by decide) ?_
    exact hret (fg b.toNat) () 18 _ _ _ (Nat.le_of_ble_eq_true rfl) (Nat.le_of_ble_eq_true rfl) dX6_heatOf_18 rfl rfl
set_option maxHeartbeats 4000000 in
set_option maxRecDepth 100000 in
theorem c_P_copyFrom (M : KM) (h g n : Nat) (fg : Nat → Int) (h2 g2 n2 : Nat) (fg2 : Nat → Int)  : kCV M yX6_copyFrom cX6_copyFrom 2 1 0 0 [cO 6 h [.int (zI (n : Int)), .ref g], cI M g 4 fg, cO 6 h2 [.int (zI (n2 : Int)), .ref g2], cI M g2 4 fg2] [.ref h, .ref h2] (fun u : Unit => True) (fun u => [cO 6 h [.int (zI (n2 : Int)), .ref g], cI M g 4 fg2, cO 6 h2 [.int (zI (n2 : Int)), .ref g2], cI M g2 4 fg2]) := by
  refine kCV.of [(0, .ref h), (1, .ref h2)] (by decide) (Nat.le_of_ble_eq_true rfl) rfl (fun E gg gn hret => ?_)
  refine z_aload_n (pc := 0) 0 gg dX6_copyFrom_0 rfl rfl ?_
  refine z_aload_n (pc := 1) 1 gg dX6_copyFrom_1 rfl rfl ?_
  refine z_get (pc := 2) 2 gg fl_X6_9 dX6_copyFrom_2 rfl rfl ?_
  refine z_put (pc := 5) 0 [cO 6 h [.int (zI (n2 : Int)), .ref g], cI M g 4 fg, cO 6 h2 [.int (zI (n2 : Int)), .ref g2], cI M g2 4 fg2] gg fp_X6_9 dX6_copyFrom_5 rfl rfl rfl (Nat.le_of_ble_eq_true rfl) rfl ?_
  refine z_aload_n (pc := 8) 1 gg dX6_copyFrom_8 rfl rfl ?_
  refine z_get (pc := 9) 2 gg fl_X6_15 dX6_copyFrom_9 rfl rfl ?_
  refine z_iconst (pc := 12) gg dX6_copyFrom_12 ?_
  refine z_aload_n (pc := 13) 0 gg dX6_copyFrom_13 rfl rfl ?_
  refine z_get (pc := 14) 0 gg fl_X6_15 dX6_copyFrom_14 rfl rfl ?_
  refine z_iconst (pc := 17) gg dX6_copyFrom_17 ?_
  refine z_iconst (pc := 18) gg dX6_copyFrom_18 ?_
  refine z_copy (pc := 19) 3 1 [cO 6 h [.int (zI (n2 : Int)), .ref g], cI M g 4 fg2, cO 6 h2 [.int (zI (n2 : Int)), .ref g2], cI M g2 4 fg2] gg dX6_copyFrom_19 ml_X6_23 ac_1 ac_2 ac_3 (by decide) (Nat.le_of_ble_eq_true rfl) rfl rfl rfl (by decide) rfl ?_
  exact hret () 22 _ _ _ (Nat.le_of_ble_eq_true rfl) (Nat.le_of_ble_eq_true rfl) dX6_copyFrom_22 trivial
set_option maxHeartbeats 4000000 in
set_option maxRecDepth 100000 in
theorem c_P_init (M : KM) (h : Nat)  : kCV M yX6_init cX6_init 1 1 1 4 [cO 6 h [.int (zI 0), .null]] [.ref h] (fun u : Nat => True) (fun u => [cO 6 h [.int (zI 0), .ref u], cI M u 4 (fun _ => 0)]) := by
  refine kCV.of [(0, .ref h)] (by decide) (Nat.le_of_ble_eq_true rfl) rfl (fun E gg gn hret => ?_)
  refine z_aload_n (pc := 0) 0 gg dX6_init_0 rfl rfl ?_
  refine z_obj (pc := 1) gg dX6_init_1 ml_X6_3 oi_1 oi_2 (by decide) (Nat.le_of_ble_eq_true rfl) ?_
  refine z_aload_n (pc := 4) 0 gg dX6_init_4 rfl rfl ?_
  refine z_iconst (pc := 5) gg dX6_init_5 ?_
  refine z_put (pc := 6) 0 [cO 6 h [.int (zI 0), .null]] gg fp_X6_9 dX6_init_6 rfl rfl rfl (Nat.le_of_ble_eq_true rfl) rfl ?_
  refine z_aload_n (pc := 9) 0 gg dX6_init_9 rfl rfl ?_
  refine z_iconst (pc := 10) gg dX6_init_10 ?_
  refine z_newaI (pc := 11) gg dX6_init_11 ar_I rfl (by decide) (Nat.le_of_ble_eq_true rfl) (Nat.le_of_ble_eq_true rfl) (fun q1 => ?_)
  show kV M E 1 _ _ [cO 6 h [.int (zI 0), .null], cI M q1 4 (fun _ => 0)] _ _ _
  refine z_putF (pc := 13) 0 [cO 6 h [.int (zI 0), .ref q1], cI M q1 4 (fun _ => 0)] gg gn fp_X6_15 dX6_init_13 rfl rfl rfl (Nat.le_of_ble_eq_true rfl) rfl ?_
  exact hret q1 16 _ _ _ (Nat.le_of_ble_eq_true rfl) (Nat.le_of_ble_eq_true rfl) dX6_init_16 trivial
set_option maxHeartbeats 4000000 in
set_option maxRecDepth 100000 in
theorem c_M_isFull (M : KM) (h g n : Nat) (F : Nat → Int) (hn : n ≤ 24) : kCI M yX5_isFull cX5_isFull 1 .boolean 0 0 0 [cO 5 h [.int (zI (n : Int)), .ref g], cI M g 192 F] [.ref h] (fun z (u : Unit) => (z = 1 ∧ n = 24) ∨ (z = 0 ∧ n < 24)) (fun u => [cO 5 h [.int (zI (n : Int)), .ref g], cI M g 192 F]) := by
  refine kCI.of [(0, .ref h)] (by decide) (Nat.le_of_ble_eq_true rfl) rfl (fun E gg hret => ?_)
  refine z_aload_n (pc := 0) 0 gg dX5_isFull_0 rfl rfl ?_
  refine z_get (pc := 1) 0 gg fl_X5_9 dX5_isFull_1 rfl rfl ?_
  refine z_bipush (pc := 4) gg dX5_isFull_4 (by decide +kernel) ?_
  refine z_icmp_lt (pc := 6) 13 gg dX5_isFull_6 (by decide) ⟨by omega, by omega⟩ ⟨by omega, by omega⟩ (fun h6 => ?_) (fun h6 => ?_)
  · refine z_iconst (pc := 13) gg dX5_isFull_13 ?_
    exact hret 0 () 14 _ _ _ (Nat.le_of_ble_eq_true rfl) (Nat.le_of_ble_eq_true rfl) dX5_isFull_14 (zB01 (by omega)) (by omega)
  · refine z_iconst (pc := 9) gg dX5_isFull_9 ?_
    refine z_goto (pc := 10) 14 gg dX5_isFull_10 (by decide) ?_
    exact hret 1 () 14 _ _ _ (Nat.le_of_ble_eq_true rfl) (Nat.le_of_ble_eq_true rfl) dX5_isFull_14 (zB01 (by omega)) (by omega)
set_option maxHeartbeats 4000000 in
set_option maxRecDepth 100000 in
theorem c_M_add (M : KM) (h g n : Nat) (F : Nat → Int) (hn : n < 24) : kCI M yX5_add cX5_add 1 .int 1 0 0 [cO 5 h [.int (zI (n : Int)), .ref g], cI M g 192 F] [.ref h] (fun z (u : Unit) => z = n) (fun u => [cO 5 h [.int (zI ((n : Int) + 1)), .ref g], cI M g 192 F]) := by
  refine kCI.of [(0, .ref h)] (by decide) (Nat.le_of_ble_eq_true rfl) rfl (fun E gg hret => ?_)
  refine z_aload_n (pc := 0) 0 gg dX5_add_0 rfl rfl ?_
  refine z_callWi (pc := 1) (As := []) (st := []) gg (c_M_isFull M h g n F (by first | assumption | omega | exact ⟨by omega, by omega⟩)) yv_5_isFull ml_X5_19 dX5_add_1 (by decide) (Nat.le_of_ble_eq_true rfl) (Nat.le_of_ble_eq_true rfl) (Nat.le_of_ble_eq_true rfl) rfl rfl rfl (fun z1 u1 hz1 => ?_)
  refine z_if_eq (pc := 4) 9 gg dX5_add_4 (by decide) ⟨by omega, by omega⟩ (fun h4 => ?_) (fun h4 => ?_)
  · refine z_aload_n (pc := 9) 0 gg dX5_add_9 rfl rfl ?_
    refine z_dup (pc := 10) gg dX5_add_10 rfl ?_
    refine z_get (pc := 11) 0 gg fl_X5_9 dX5_add_11 rfl rfl ?_
    refine z_iconst (pc := 14) gg dX5_add_14 ?_
    refine z_iadd (pc := 15) gg dX5_add_15 ?_
    refine z_put (pc := 16) 0 [cO 5 h [.int (zI ((n : Int) + 1)), .ref g], cI M g 192 F] gg fp_X5_9 dX5_add_16 rfl rfl rfl (Nat.le_of_ble_eq_true rfl) rfl ?_
    refine z_aload_n (pc := 19) 0 gg dX5_add_19 rfl rfl ?_
    refine z_get (pc := 20) 0 gg fl_X5_9 dX5_add_20 rfl rfl ?_
    refine z_iconst (pc := 23) gg dX5_add_23 ?_
    refine z_isub (pc := 24) gg dX5_add_24 ?_
    exact hret (((n : Int) + 1) - 1) () 25 _ _ _ (Nat.le_of_ble_eq_true rfl) (Nat.le_of_ble_eq_true rfl) dX5_add_25 rfl (by omega)
  · exfalso; omega
set_option maxHeartbeats 4000000 in
set_option maxRecDepth 100000 in
theorem c_M_has (M : KM) (h g n : Nat) (F : Nat → Int) (b : Int) (hn : n ≤ 24) (hb : zR b) : kCI M yX5_has cX5_has 2 .boolean 0 0 0 [cO 5 h [.int (zI (n : Int)), .ref g], cI M g 192 F] [.ref h, .int (zI b)] (fun z (u : Unit) => (z = 1 ∧ 0 ≤ b ∧ b < n) ∨ (z = 0 ∧ (b < 0 ∨ (n : Int) ≤ b))) (fun u => [cO 5 h [.int (zI (n : Int)), .ref g], cI M g 192 F]) := by
  refine kCI.of [(0, .ref h), (1, .int (zI b))] (by decide) (Nat.le_of_ble_eq_true rfl) rfl (fun E gg hret => ?_)
  have r1_hb := hb.1
  have r2_hb := hb.2
  refine z_iload_n (pc := 0) 1 gg dX5_has_0 rfl rfl ?_
  refine z_if_lt (pc := 1) 16 gg dX5_has_1 (by decide) ⟨by omega, by omega⟩ (fun h1 => ?_) (fun h1 => ?_)
  · refine z_iconst (pc := 16) gg dX5_has_16 ?_
    exact hret 0 () 17 _ _ _ (Nat.le_of_ble_eq_true rfl) (Nat.le_of_ble_eq_true rfl) dX5_has_17 (zB01 (by omega)) (by omega)
  · refine z_iload_n (pc := 4) 1 gg dX5_has_4 rfl rfl ?_
    refine z_aload_n (pc := 5) 0 gg dX5_has_5 rfl rfl ?_
    refine z_get (pc := 6) 0 gg fl_X5_9 dX5_has_6 rfl rfl ?_
    refine z_icmp_ge (pc := 9) 16 gg dX5_has_9 (by decide) ⟨by omega, by omega⟩ ⟨by omega, by omega⟩ (fun h9 => ?_) (fun h9 => ?_)
    · refine z_iconst (pc := 16) gg dX5_has_16 ?_
      exact hret 0 () 17 _ _ _ (Nat.le_of_ble_eq_true rfl) (Nat.le_of_ble_eq_true rfl) dX5_has_17 (zB01 (by omega)) (by omega)
    · refine z_iconst (pc := 12) gg dX5_has_12 ?_
      refine z_goto (pc := 13) 17 gg dX5_has_13 (by decide) ?_
      exact hret 1 () 17 _ _ _ (Nat.le_of_ble_eq_true rfl) (Nat.le_of_ble_eq_true rfl) dX5_has_17 (zB01 (by omega)) (by omega)
set_option maxHeartbeats 4000000 in
set_option maxRecDepth 100000 in
theorem c_M_get (M : KM) (h g n : Nat) (F : Nat → Int) (b w : Int) (hn : n ≤ 24) (hb : zR b) (hw : zR w) : kCI M yX5_get cX5_get 3 .int 1 0 0 [cO 5 h [.int (zI (n : Int)), .ref g], cI M g 192 F] [.ref h, .int (zI b), .int (zI w)] (fun z (u : Unit) => (0 ≤ b ∧ b < n ∧ 0 ≤ w ∧ w < 8 ∧ z = F (b.toNat * 8 + w.toNat)) ∨ ((b < 0 ∨ (n : Int) ≤ b ∨ w < 0 ∨ 8 ≤ w) ∧ z = -1)) (fun u => [cO 5 h [.int (zI (n : Int)), .ref g], cI M g 192 F]) := by
  refine kCI.of [(0, .ref h), (1, .int (zI b)), (2, .int (zI w))] (by decide) (Nat.le_of_ble_eq_true rfl) rfl (fun E gg hret => ?_)
  have r1_hb := hb.1
  have r2_hb := hb.2
  have r1_hw := hw.1
  have r2_hw := hw.2
  refine z_aload_n (pc := 0) 0 gg dX5_get_0 rfl rfl ?_
  refine z_iload_n (pc := 1) 1 gg dX5_get_1 rfl rfl ?_
  refine z_callWi (pc := 2) (As := [.int (zI b)]) (st := []) gg (c_M_has M h g n F b (by first | assumption | omega | exact ⟨by omega, by omega⟩) (by first | assumption | omega | exact ⟨by omega, by omega⟩)) yv_5_has ml_X5_23 dX5_get_2 (by decide) (Nat.le_of_ble_eq_true rfl) (Nat.le_of_ble_eq_true rfl) (Nat.le_of_ble_eq_true rfl) rfl rfl rfl (fun z2 u2 hz2 => ?_)
  refine z_if_eq (pc := 5) 32 gg dX5_get_5 (by decide) ⟨by omega, by omega⟩ (fun h5 => ?_) (fun h5 => ?_)
  · refine z_iconst (pc := 32) gg dX5_get_32 ?_
    exact hret (-1) () 33 _ _ _ (Nat.le_of_ble_eq_true rfl) (Nat.le_of_ble_eq_true rfl) dX5_get_33 rfl (by omega)
  · refine z_iload_n (pc := 8) 2 gg dX5_get_8 rfl rfl ?_
    refine z_if_lt (pc := 9) 32 gg dX5_get_9 (by decide) ⟨by omega, by omega⟩ (fun h9 => ?_) (fun h9 => ?_)
    · refine z_iconst (pc := 32) gg dX5_get_32 ?_
      exact hret (-1) () 33 _ _ _ (Nat.le_of_ble_eq_true rfl) (Nat.le_of_ble_eq_true rfl) dX5_get_33 rfl (by omega)
    · refine z_iload_n (pc := 12) 2 gg dX5_get_12 rfl rfl ?_
      refine z_bipush (pc := 13) gg dX5_get_13 (by decide +kernel) ?_
      refine z_icmp_ge (pc := 15) 32 gg dX5_get_15 (by decide) ⟨by omega, by omega⟩ ⟨by omega, by omega⟩ (fun h15 => ?_) (fun h15 => ?_)
      · refine z_iconst (pc := 32) gg dX5_get_32 ?_
        exact hret (-1) () 33 _ _ _ (Nat.le_of_ble_eq_true rfl) (Nat.le_of_ble_eq_true rfl) dX5_get_33 rfl (by omega)
      · refine z_aload_n (pc := 18) 0 gg dX5_get_18 rfl rfl ?_
        refine z_get (pc := 19) 0 gg fl_X5_15 dX5_get_19 rfl rfl ?_
        refine z_iload_n (pc := 22) 1 gg dX5_get_22 rfl rfl ?_
        refine z_bipush (pc := 23) gg dX5_get_23 (by decide +kernel) ?_
        refine z_imul (pc := 25) gg dX5_get_25 ?_
        refine z_iload_n (pc := 26) 2 gg dX5_get_26 rfl rfl ?_
        refine z_iadd (pc := 27) gg dX5_get_27 ?_
        refine z_iald (pc := 28) 1 ((b.toNat * 8) + w.toNat) gg dX5_get_28 rfl (by omega) (by omega) (by decide) ?_
        refine z_goto (pc := 29) 33 gg dX5_get_29 (by decide) ?_
        exact hret (F ((b.toNat * 8) + w.toNat)) () 33 _ _ _ (Nat.le_of_ble_eq_true rfl) (Nat.le_of_ble_eq_true rfl) dX5_get_33 rfl (by omega)
set_option maxHeartbeats 4000000 in
set_option maxRecDepth 100000 in
theorem c_M_getk (M : KM) (h g n : Nat) (F : Nat → Int) (b : Int) (k : Nat) (hn : n ≤ 24) (hb : 0 ≤ b ∧ b < n) (hk : k < 8) : kCI M yX5_get cX5_get 3 .int 1 0 0 [cO 5 h [.int (zI (n : Int)), .ref g], cI M g 192 F] [.ref h, .int (zI b), .int (zI (k : Int))] (fun z (u : Unit) => z = F (b.toNat * 8 + k)) (fun u => [cO 5 h [.int (zI (n : Int)), .ref g], cI M g 192 F]) := by
  refine kCI.of [(0, .ref h), (1, .int (zI b)), (2, .int (zI (k : Int)))] (by decide) (Nat.le_of_ble_eq_true rfl) rfl (fun E gg hret => ?_)
  refine z_aload_n (pc := 0) 0 gg dX5_get_0 rfl rfl ?_
  refine z_iload_n (pc := 1) 1 gg dX5_get_1 rfl rfl ?_
  refine z_callWi (pc := 2) (As := [.int (zI b)]) (st := []) gg (c_M_has M h g n F b (by first | assumption | omega | exact ⟨by omega, by omega⟩) (by first | assumption | omega | exact ⟨by omega, by omega⟩)) yv_5_has ml_X5_23 dX5_get_2 (by decide) (Nat.le_of_ble_eq_true rfl) (Nat.le_of_ble_eq_true rfl) (Nat.le_of_ble_eq_true rfl) rfl rfl rfl (fun z2 u2 hz2 => ?_)
  refine z_if_eq (pc := 5) 32 gg dX5_get_5 (by decide) ⟨by omega, by omega⟩ (fun h5 => ?_) (fun h5 => ?_)
  · exfalso; omega
  · refine z_iload_n (pc := 8) 2 gg dX5_get_8 rfl rfl ?_
    refine z_if_lt (pc := 9) 32 gg dX5_get_9 (by decide) ⟨by omega, by omega⟩ (fun h9 => ?_) (fun h9 => ?_)
    · exfalso; omega
    · refine z_iload_n (pc := 12) 2 gg dX5_get_12 rfl rfl ?_
      refine z_bipush (pc := 13) gg dX5_get_13 (by decide +kernel) ?_
      refine z_icmp_ge (pc := 15) 32 gg dX5_get_15 (by decide) ⟨by omega, by omega⟩ ⟨by omega, by omega⟩ (fun h15 => ?_) (fun h15 => ?_)
      · exfalso; omega
      · refine z_aload_n (pc := 18) 0 gg dX5_get_18 rfl rfl ?_
        refine z_get (pc := 19) 0 gg fl_X5_15 dX5_get_19 rfl rfl ?_
        refine z_iload_n (pc := 22) 1 gg dX5_get_22 rfl rfl ?_
        refine z_bipush (pc := 23) gg dX5_get_23 (by decide +kernel) ?_
        refine z_imul (pc := 25) gg dX5_get_25 ?_
        refine z_iload_n (pc := 26) 2 gg dX5_get_26 rfl rfl ?_
        refine z_iadd (pc := 27) gg dX5_get_27 ?_
        refine z_iald (pc := 28) 1 ((b.toNat * 8) + k) gg dX5_get_28 rfl (by omega) (by omega) (by decide) ?_
        refine z_goto (pc := 29) 33 gg dX5_get_29 (by decide) ?_
        exact hret (F ((b.toNat * 8) + k)) () 33 _ _ _ (Nat.le_of_ble_eq_true rfl) (Nat.le_of_ble_eq_true rfl) dX5_get_33 rfl rfl
set_option maxHeartbeats 4000000 in
set_option maxRecDepth 100000 in
theorem c_M_putk (M : KM) (h g n : Nat) (F : Nat → Int) (b : Int) (k : Nat) (x : Int) (hn : n ≤ 24) (hb : 0 ≤ b ∧ b < n) (hk : k < 8) : kCV M yX5_put cX5_put 4 1 0 0 [cO 5 h [.int (zI (n : Int)), .ref g], cI M g 192 F] [.ref h, .int (zI b), .int (zI (k : Int)), .int (zI x)] (fun u : Unit => True) (fun u => [cO 5 h [.int (zI (n : Int)), .ref g], cI M g 192 (zU F (b.toNat * 8 + k) x)]) := by
  refine kCV.of [(0, .ref h), (1, .int (zI b)), (2, .int (zI (k : Int))), (3, .int (zI x))] (by decide) (Nat.le_of_ble_eq_true rfl) rfl (fun E gg gn hret => ?_)
  refine z_aload_n (pc := 0) 0 gg dX5_put_0 rfl rfl ?_
  refine z_iload_n (pc := 1) 1 gg dX5_put_1 rfl rfl ?_
  refine z_callWi (pc := 2) (As := [.int (zI b)]) (st := []) gg (c_M_has M h g n F b (by first | assumption | omega | exact ⟨by omega, by omega⟩) (by first | assumption | omega | exact ⟨by omega, by omega⟩)) yv_5_has ml_X5_23 dX5_put_2 (by decide) (Nat.le_of_ble_eq_true rfl) (Nat.le_of_ble_eq_true rfl) (Nat.le_of_ble_eq_true rfl) rfl rfl rfl (fun z2 u2 hz2 => ?_)
  refine z_if_eq (pc := 5) 30 gg dX5_put_5 (by decide) ⟨by omega, by omega⟩ (fun h5 => ?_) (fun h5 => ?_)
  · exfalso; omega
  · refine z_iload_n (pc := 8) 2 gg dX5_put_8 rfl rfl ?_
    refine z_if_lt (pc := 9) 30 gg dX5_put_9 (by decide) ⟨by omega, by omega⟩ (fun h9 => ?_) (fun h9 => ?_)
    · exfalso; omega
    · refine z_iload_n (pc := 12) 2 gg dX5_put_12 rfl rfl ?_
      refine z_bipush (pc := 13) gg dX5_put_13 (by decide +kernel) ?_
      refine z_icmp_ge (pc := 15) 30 gg dX5_put_15 (by decide) ⟨by omega, by omega⟩ ⟨by omega, by omega⟩ (fun h15 => ?_) (fun h15 => ?_)
      · exfalso; omega
      · refine z_aload_n (pc := 18) 0 gg dX5_put_18 rfl rfl ?_
        refine z_get (pc := 19) 0 gg fl_X5_15 dX5_put_19 rfl rfl ?_
        refine z_iload_n (pc := 22) 1 gg dX5_put_22 rfl rfl ?_
        refine z_bipush (pc := 23) gg dX5_put_23 (by decide +kernel) ?_
        refine z_imul (pc := 25) gg dX5_put_25 ?_
        refine z_iload_n (pc := 26) 2 gg dX5_put_26 rfl rfl ?_
        refine z_iadd (pc := 27) gg dX5_put_27 ?_
        refine z_iload_n (pc := 28) 3 gg dX5_put_28 rfl rfl ?_
        refine z_iast (pc := 29) 1 ((b.toNat * 8) + k) [cO 5 h [.int (zI (n : Int)), .ref g], cI M g 192 (zU F ((b.toNat * 8) + k) x)] gg dX5_put_29 rfl (by omega) (by omega) (by decide) rfl ?_
        exact hret () 30 _ _ _ (Nat.le_of_ble_eq_true rfl) (Nat.le_of_ble_eq_true rfl) dX5_put_30 trivial
set_option maxHeartbeats 4000000 in
set_option maxRecDepth 100000 in
theorem c_M_isPressed (M : KM) (h g n : Nat) (F : Nat → Int) (b : Int) (hn : n ≤ 24) (hb : 0 ≤ b ∧ b < n) (hF : ∀ j, j < 192 → zR (F j)) : kCI M yX5_isPressed cX5_isPressed 2 .boolean 2 0 0 [cO 5 h [.int (zI (n : Int)), .ref g], cI M g 192 F] [.ref h, .int (zI b)] (fun z (u : Unit) => (z = 1 ∧ F (b.toNat * 8 + 7) ≠ -1) ∨ (z = 0 ∧ F (b.toNat * 8 + 7) = -1)) (fun u => [cO 5 h [.int (zI (n : Int)), .ref g], cI M g 192 F]) := by
  refine kCI.of [(0, .ref h), (1, .int (zI b))] (by decide) (Nat.le_of_ble_eq_true rfl) rfl (fun E gg hret => ?_)
  refine z_aload_n (pc := 0) 0 gg dX5_isPressed_0 rfl rfl ?_
  refine z_iload_n (pc := 1) 1 gg dX5_isPressed_1 rfl rfl ?_
  refine z_bipush (pc := 2) gg dX5_isPressed_2 (by decide +kernel) ?_
  refine z_callWi (pc := 4) (As := [.int (zI b), .int (zI 7)]) (st := []) gg (c_M_getk M h g n F b 7 (by first | assumption | omega | exact ⟨by omega, by omega⟩) (by first | assumption | omega | exact ⟨by omega, by omega⟩) (by first | assumption | omega | exact ⟨by omega, by omega⟩)) yv_5_get ml_X5_27 dX5_isPressed_4 (by decide) (Nat.le_of_ble_eq_true rfl) (Nat.le_of_ble_eq_true rfl) (Nat.le_of_ble_eq_true rfl) rfl rfl rfl (fun z4 u4 hz4 => ?_)
  refine z_iconst (pc := 7) gg dX5_isPressed_7 ?_
  refine z_icmp_eq (pc := 8) 15 gg dX5_isPressed_8 (by decide) (by rw [hz4]; exact hF _ (by omega)) ⟨by omega, by omega⟩ (fun h8 => ?_) (fun h8 => ?_)
  · refine z_iconst (pc := 15) gg dX5_isPressed_15 ?_
    exact hret 0 () 16 _ _ _ (Nat.le_of_ble_eq_true rfl) (Nat.le_of_ble_eq_true rfl) dX5_isPressed_16 (zB01 (by omega)) (by omega)
  · refine z_iconst (pc := 11) gg dX5_isPressed_11 ?_
    refine z_goto (pc := 12) 16 gg dX5_isPressed_12 (by decide) ?_
    exact hret 1 () 16 _ _ _ (Nat.le_of_ble_eq_true rfl) (Nat.le_of_ble_eq_true rfl) dX5_isPressed_16 (zB01 (by omega)) (by omega)
set_option maxHeartbeats 4000000 in
set_option maxRecDepth 100000 in
theorem c_M_pressed (M : KM) (h g n : Nat) (F : Nat → Int) (hn : n ≤ 24) (hF : ∀ j, j < 192 → zR (F j)) : kCI M yX5_pressed cX5_pressed 3 .int 3 0 0 [cO 5 h [.int (zI (n : Int)), .ref g], cI M g 192 F] [.ref h] (fun z (u : Unit) => z = pC F n) (fun u => [cO 5 h [.int (zI (n : Int)), .ref g], cI M g 192 F]) := by
  refine kCI.of [(0, .ref h)] (by decide) (Nat.le_of_ble_eq_true rfl) rfl (fun E gg hret => ?_)
  refine z_iconst (pc := 0) gg dX5_pressed_0 ?_
  refine z_istore_n (pc := 1) [(1, .int (zI 0)), (0, .ref h)] gg dX5_pressed_1 rfl (Nat.le_of_ble_eq_true rfl) rfl ?_
  refine z_iconst (pc := 2) gg dX5_pressed_2 ?_
  refine z_istore_n (pc := 3) [(2, .int (zI 0)), (1, .int (zI 0)), (0, .ref h)] gg dX5_pressed_3 rfl (Nat.le_of_ble_eq_true rfl) rfl ?_
  have loop4 : ∀ (k4 : Nat) (i s : Int), (0 ≤ i ∧ i ≤ n) → (s = pC F i.toNat) → (n : Int).toNat - i.toNat < k4 → kV M E 3 0 0 [cO 5 h [.int (zI (n : Int)), .ref g], cI M g 192 F] [(2, .int (zI i)), (1, .int (zI s)), (0, .ref h)] 4 [] := by
    intro k4
    induction k4 with
    | zero => intro i s hi hs hm4; exact absurd hm4 (Nat.not_lt_zero _)
    | succ k4 ih4 =>
      intro i s hi hs hm4
      refine z_iload_n (pc := 4) 0 gg dX5_pressed_4 rfl rfl ?_
      refine z_aload_n (pc := 5) 2 gg dX5_pressed_5 rfl rfl ?_
      refine z_get (pc := 6) 0 gg fl_X5_9 dX5_pressed_6 rfl rfl ?_
      refine z_icmp_ge (pc := 9) 35 gg dX5_pressed_9 (by decide) ⟨by omega, by omega⟩ ⟨by omega, by omega⟩ (fun h9 => ?_) (fun h9 => ?_)
      · refine z_iload_n (pc := 35) 1 gg dX5_pressed_35 rfl rfl ?_
        exact hret s () 36 _ _ _ (Nat.le_of_ble_eq_true rfl) (Nat.le_of_ble_eq_true rfl) dX5_pressed_36 rfl (by rw [hs]; congr 1; omega)
      · refine z_iload_n (pc := 12) 0 gg dX5_pressed_12 rfl rfl ?_
        refine z_bipush (pc := 13) gg dX5_pressed_13 (by decide +kernel) ?_
        refine z_icmp_ge (pc := 15) 35 gg dX5_pressed_15 (by decide) ⟨by omega, by omega⟩ ⟨by omega, by omega⟩ (fun h15 => ?_) (fun h15 => ?_)
        · exfalso; omega
        · refine z_aload_n (pc := 18) 2 gg dX5_pressed_18 rfl rfl ?_
          refine z_iload_n (pc := 19) 0 gg dX5_pressed_19 rfl rfl ?_
          refine z_callWi (pc := 20) (As := [.int (zI i)]) (st := []) gg (c_M_isPressed M h g n F i (by first | assumption | omega | exact ⟨by omega, by omega⟩) (by first | assumption | omega | exact ⟨by omega, by omega⟩) (by first | assumption | omega | exact ⟨by omega, by omega⟩)) yv_5_isPressed ml_X5_31 dX5_pressed_20 (by decide) (Nat.le_of_ble_eq_true rfl) (Nat.le_of_ble_eq_true rfl) (Nat.le_of_ble_eq_true rfl) rfl rfl rfl (fun z20 u20 hz20 => ?_)
          refine z_if_eq (pc := 23) 29 gg dX5_pressed_23 (by decide) ⟨by omega, by omega⟩ (fun h23 => ?_) (fun h23 => ?_)
          · refine z_iinc (pc := 29) 0 [(2, .int (zI (i + 1))), (1, .int (zI s)), (0, .ref h)] gg dX5_pressed_29 rfl (Nat.le_of_ble_eq_true rfl) rfl ?_
            refine z_goto (pc := 32) 4 gg dX5_pressed_32 (by decide) ?_
            exact ih4 (i + 1) s (by omega) (by unfold pC at *; rw [zS_step (by omega), ← hs]; rw [if_pos (by omega)]; omega) (by omega)
          · refine z_iinc (pc := 26) 1 [(1, .int (zI (s + 1))), (2, .int (zI i)), (0, .ref h)] gg dX5_pressed_26 rfl (Nat.le_of_ble_eq_true rfl) rfl ?_
            refine z_iinc (pc := 29) 1 [(2, .int (zI (i + 1))), (1, .int (zI (s + 1))), (0, .ref h)] gg dX5_pressed_29 rfl (Nat.le_of_ble_eq_true rfl) rfl ?_
            refine z_goto (pc := 32) 4 gg dX5_pressed_32 (by decide) ?_
            exact ih4 (i + 1) (s + 1) (by omega) (by unfold pC at *; rw [zS_step (by omega), ← hs]; rw [if_neg (by omega)]) (by omega)
  exact loop4 _ 0 0 (by omega) rfl (Nat.lt_succ_self _)
set_option maxHeartbeats 4000000 in
set_option maxRecDepth 100000 in
theorem c_M_withLot (M : KM) (h g n : Nat) (F : Nat → Int) (b : Int) (hn : n ≤ 24) (hb : 0 ≤ b ∧ b < 8) (hF : ∀ j, j < 192 → zR (F j)) : kCI M yX5_withLot cX5_withLot 4 .int 2 0 0 [cO 5 h [.int (zI (n : Int)), .ref g], cI M g 192 F] [.ref h, .int (zI b)] (fun z (u : Unit) => z = rB F b n) (fun u => [cO 5 h [.int (zI (n : Int)), .ref g], cI M g 192 F]) := by
  refine kCI.of [(0, .ref h), (1, .int (zI b))] (by decide) (Nat.le_of_ble_eq_true rfl) rfl (fun E gg hret => ?_)
  refine z_iconst (pc := 0) gg dX5_withLot_0 ?_
  refine z_istore_n (pc := 1) [(2, .int (zI 0)), (0, .ref h), (1, .int (zI b))] gg dX5_withLot_1 rfl (Nat.le_of_ble_eq_true rfl) rfl ?_
  refine z_iconst (pc := 2) gg dX5_withLot_2 ?_
  refine z_istore_n (pc := 3) [(3, .int (zI 0)), (2, .int (zI 0)), (0, .ref h), (1, .int (zI b))] gg dX5_withLot_3 rfl (Nat.le_of_ble_eq_true rfl) rfl ?_
  have loop4 : ∀ (k4 : Nat) (i s : Int), (0 ≤ i ∧ i ≤ n) → (s = rB F b i.toNat) → (n : Int).toNat - i.toNat < k4 → kV M E 4 0 0 [cO 5 h [.int (zI (n : Int)), .ref g], cI M g 192 F] [(3, .int (zI i)), (2, .int (zI s)), (0, .ref h), (1, .int (zI b))] 4 [] := by
    intro k4
    induction k4 with
    | zero => intro i s hi hs hm4; exact absurd hm4 (Nat.not_lt_zero _)
    | succ k4 ih4 =>
      intro i s hi hs hm4
      refine z_iload_n (pc := 4) 0 gg dX5_withLot_4 rfl rfl ?_
      refine z_aload_n (pc := 5) 2 gg dX5_withLot_5 rfl rfl ?_
      refine z_get (pc := 6) 0 gg fl_X5_9 dX5_withLot_6 rfl rfl ?_
      refine z_icmp_ge (pc := 9) 44 gg dX5_withLot_9 (by decide) ⟨by omega, by omega⟩ ⟨by omega, by omega⟩ (fun h9 => ?_) (fun h9 => ?_)
      · refine z_iload_n (pc := 44) 1 gg dX5_withLot_44 rfl rfl ?_
        exact hret s () 45 _ _ _ (Nat.le_of_ble_eq_true rfl) (Nat.le_of_ble_eq_true rfl) dX5_withLot_45 rfl (by rw [hs]; congr 1; omega)
      · refine z_iload_n (pc := 12) 0 gg dX5_withLot_12 rfl rfl ?_
        refine z_bipush (pc := 13) gg dX5_withLot_13 (by decide +kernel) ?_
        refine z_icmp_ge (pc := 15) 44 gg dX5_withLot_15 (by decide) ⟨by omega, by omega⟩ ⟨by omega, by omega⟩ (fun h15 => ?_) (fun h15 => ?_)
        · exfalso; omega
        · refine z_aload_n (pc := 18) 2 gg dX5_withLot_18 rfl rfl ?_
          refine z_iload_n (pc := 19) 0 gg dX5_withLot_19 rfl rfl ?_
          refine z_bipush (pc := 20) gg dX5_withLot_20 (by decide +kernel) ?_
          refine z_callWi (pc := 22) (As := [.int (zI i), .int (zI 6)]) (st := []) gg (c_M_getk M h g n F i 6 (by first | assumption | omega | exact ⟨by omega, by omega⟩) (by first | assumption | omega | exact ⟨by omega, by omega⟩) (by first | assumption | omega | exact ⟨by omega, by omega⟩)) yv_5_get ml_X5_27 dX5_withLot_22 (by decide) (Nat.le_of_ble_eq_true rfl) (Nat.le_of_ble_eq_true rfl) (Nat.le_of_ble_eq_true rfl) rfl rfl rfl (fun z22 u22 hz22 => ?_)
          subst hz22
          refine z_iload_n (pc := 25) 3 gg dX5_withLot_25 rfl rfl ?_
          refine z_ishr (pc := 26) gg dX5_withLot_26 ?_
          refine z_iconst (pc := 27) gg dX5_withLot_27 ?_
          refine z_iand (pc := 28) gg dX5_withLot_28 ?_
          refine z_if_eq (pc := 29) 38 gg dX5_withLot_29 (by decide) (zAnd_R _ _) (fun h29 => ?_) (fun h29 => ?_)
          · refine z_iinc (pc := 38) 0 [(3, .int (zI (i + 1))), (2, .int (zI s)), (0, .ref h), (1, .int (zI b))] gg dX5_withLot_38 rfl (Nat.le_of_ble_eq_true rfl) rfl ?_
            refine z_goto (pc := 41) 4 gg dX5_withLot_41 (by decide) ?_
            exact ih4 (i + 1) s (by omega) (by rw [rB_step (by omega), ← hs, if_pos h29]) (by omega)
          · refine z_iload_n (pc := 32) 1 gg dX5_withLot_32 rfl rfl ?_
            refine z_iconst (pc := 33) gg dX5_withLot_33 ?_
            refine z_iload_n (pc := 34) 0 gg dX5_withLot_34 rfl rfl ?_
            refine z_ishl (pc := 35) gg dX5_withLot_35 ?_
            refine z_ior (pc := 36) gg dX5_withLot_36 ?_
            refine z_istore_n (pc := 37) [(2, .int (zI (zOr s (zShl 1 i)))), (3, .int (zI i)), (0, .ref h), (1, .int (zI b))] gg dX5_withLot_37 rfl (Nat.le_of_ble_eq_true rfl) rfl ?_
            refine z_iinc (pc := 38) 1 [(3, .int (zI (i + 1))), (2, .int (zI (zOr s (zShl 1 i)))), (0, .ref h), (1, .int (zI b))] gg dX5_withLot_38 rfl (Nat.le_of_ble_eq_true rfl) rfl ?_
            refine z_goto (pc := 41) 4 gg dX5_withLot_41 (by decide) ?_
            exact ih4 (i + 1) (zOr s (zShl 1 i)) (by omega) (by rw [rB_step (by omega), ← hs, if_neg h29]) (by omega)
  exact loop4 _ 0 0 (by omega) rfl (Nat.lt_succ_self _)
set_option maxHeartbeats 4000000 in
set_option maxRecDepth 100000 in
theorem c_M_copyFrom (M : KM) (h g n : Nat) (F : Nat → Int) (h2 g2 n2 : Nat) (F2 : Nat → Int)  : kCV M yX5_copyFrom cX5_copyFrom 2 1 0 0 [cO 5 h [.int (zI (n : Int)), .ref g], cI M g 192 F, cO 5 h2 [.int (zI (n2 : Int)), .ref g2], cI M g2 192 F2] [.ref h, .ref h2] (fun u : Unit => True) (fun u => [cO 5 h [.int (zI (n2 : Int)), .ref g], cI M g 192 F2, cO 5 h2 [.int (zI (n2 : Int)), .ref g2], cI M g2 192 F2]) := by
  refine kCV.of [(0, .ref h), (1, .ref h2)] (by decide) (Nat.le_of_ble_eq_true rfl) rfl (fun E gg gn hret => ?_)
  refine z_aload_n (pc := 0) 0 gg dX5_copyFrom_0 rfl rfl ?_
  refine z_aload_n (pc := 1) 1 gg dX5_copyFrom_1 rfl rfl ?_
  refine z_get (pc := 2) 2 gg fl_X5_9 dX5_copyFrom_2 rfl rfl ?_
  refine z_put (pc := 5) 0 [cO 5 h [.int (zI (n2 : Int)), .ref g], cI M g 192 F, cO 5 h2 [.int (zI (n2 : Int)), .ref g2], cI M g2 192 F2] gg fp_X5_9 dX5_copyFrom_5 rfl rfl rfl (Nat.le_of_ble_eq_true rfl) rfl ?_
  refine z_aload_n (pc := 8) 1 gg dX5_copyFrom_8 rfl rfl ?_
  refine z_get (pc := 9) 2 gg fl_X5_15 dX5_copyFrom_9 rfl rfl ?_
  refine z_iconst (pc := 12) gg dX5_copyFrom_12 ?_
  refine z_aload_n (pc := 13) 0 gg dX5_copyFrom_13 rfl rfl ?_
  refine z_get (pc := 14) 0 gg fl_X5_15 dX5_copyFrom_14 rfl rfl ?_
  refine z_iconst (pc := 17) gg dX5_copyFrom_17 ?_
  refine z_sipush (pc := 18) gg dX5_copyFrom_18 (by decide +kernel) ?_
  refine z_copy (pc := 21) 3 1 [cO 5 h [.int (zI (n2 : Int)), .ref g], cI M g 192 F2, cO 5 h2 [.int (zI (n2 : Int)), .ref g2], cI M g2 192 F2] gg dX5_copyFrom_21 ml_X5_34 ac_1 ac_2 ac_3 (by decide) (Nat.le_of_ble_eq_true rfl) rfl rfl rfl (by decide) rfl ?_
  exact hret () 24 _ _ _ (Nat.le_of_ble_eq_true rfl) (Nat.le_of_ble_eq_true rfl) dX5_copyFrom_24 trivial
set_option maxHeartbeats 4000000 in
set_option maxRecDepth 100000 in
theorem c_M_init (M : KM) (h : Nat)  : kCV M yX5_init cX5_init 1 1 1 192 [cO 5 h [.int (zI 0), .null]] [.ref h] (fun u : Nat => True) (fun u => [cO 5 h [.int (zI 0), .ref u], cI M u 192 (fun _ => 0)]) := by
  refine kCV.of [(0, .ref h)] (by decide) (Nat.le_of_ble_eq_true rfl) rfl (fun E gg gn hret => ?_)
  refine z_aload_n (pc := 0) 0 gg dX5_init_0 rfl rfl ?_
  refine z_obj (pc := 1) gg dX5_init_1 ml_X5_3 oi_1 oi_2 (by decide) (Nat.le_of_ble_eq_true rfl) ?_
  refine z_aload_n (pc := 4) 0 gg dX5_init_4 rfl rfl ?_
  refine z_iconst (pc := 5) gg dX5_init_5 ?_
  refine z_put (pc := 6) 0 [cO 5 h [.int (zI 0), .null]] gg fp_X5_9 dX5_init_6 rfl rfl rfl (Nat.le_of_ble_eq_true rfl) rfl ?_
  refine z_aload_n (pc := 9) 0 gg dX5_init_9 rfl rfl ?_
  refine z_sipush (pc := 10) gg dX5_init_10 (by decide +kernel) ?_
  refine z_newaI (pc := 13) gg dX5_init_13 ar_I rfl (by decide) (Nat.le_of_ble_eq_true rfl) (Nat.le_of_ble_eq_true rfl) (fun q1 => ?_)
  show kV M E 1 _ _ [cO 5 h [.int (zI 0), .null], cI M q1 192 (fun _ => 0)] _ _ _
  refine z_putF (pc := 15) 0 [cO 5 h [.int (zI 0), .ref q1], cI M q1 192 (fun _ => 0)] gg gn fp_X5_15 dX5_init_15 rfl rfl rfl (Nat.le_of_ble_eq_true rfl) rfl ?_
  exact hret q1 18 _ _ _ (Nat.le_of_ble_eq_true rfl) (Nat.le_of_ble_eq_true rfl) dX5_init_18 trivial
set_option maxHeartbeats 4000000 in
set_option maxRecDepth 100000 in
theorem c_S_hasSides (M : KM) (w h : Int) (hw : zR w) (hh : zR h) : kCI M yX8_hasSides cX8_hasSides 2 .boolean 0 0 0 [] [.int (zI w), .int (zI h)] (fun z (u : Unit) => (z = 1 ∧ 1 ≤ w ∧ w ≤ 24 ∧ 1 ≤ h ∧ h ≤ 24) ∨ (z = 0 ∧ (w < 1 ∨ 24 < w ∨ h < 1 ∨ 24 < h))) (fun u => []) := by
  refine kCI.of [(0, .int (zI w)), (1, .int (zI h))] (by decide) (Nat.le_of_ble_eq_true rfl) rfl (fun E gg hret => ?_)
  have r1_hw := hw.1
  have r2_hw := hw.2
  have r1_hh := hh.1
  have r2_hh := hh.2
  refine z_iload_n (pc := 0) 0 gg dX8_hasSides_0 rfl rfl ?_
  refine z_iconst (pc := 1) gg dX8_hasSides_1 ?_
  refine z_icmp_lt (pc := 2) 26 gg dX8_hasSides_2 (by decide) ⟨by omega, by omega⟩ ⟨by omega, by omega⟩ (fun h2 => ?_) (fun h2 => ?_)
  · refine z_iconst (pc := 26) gg dX8_hasSides_26 ?_
    exact hret 0 () 27 _ _ _ (Nat.le_of_ble_eq_true rfl) (Nat.le_of_ble_eq_true rfl) dX8_hasSides_27 (zB01 (by omega)) (by omega)
  · refine z_iload_n (pc := 5) 0 gg dX8_hasSides_5 rfl rfl ?_
    refine z_bipush (pc := 6) gg dX8_hasSides_6 (by decide +kernel) ?_
    refine z_icmp_gt (pc := 8) 26 gg dX8_hasSides_8 (by decide) ⟨by omega, by omega⟩ ⟨by omega, by omega⟩ (fun h8 => ?_) (fun h8 => ?_)
    · refine z_iconst (pc := 26) gg dX8_hasSides_26 ?_
      exact hret 0 () 27 _ _ _ (Nat.le_of_ble_eq_true rfl) (Nat.le_of_ble_eq_true rfl) dX8_hasSides_27 (zB01 (by omega)) (by omega)
    · refine z_iload_n (pc := 11) 1 gg dX8_hasSides_11 rfl rfl ?_
      refine z_iconst (pc := 12) gg dX8_hasSides_12 ?_
      refine z_icmp_lt (pc := 13) 26 gg dX8_hasSides_13 (by decide) ⟨by omega, by omega⟩ ⟨by omega, by omega⟩ (fun h13 => ?_) (fun h13 => ?_)
      · refine z_iconst (pc := 26) gg dX8_hasSides_26 ?_
        exact hret 0 () 27 _ _ _ (Nat.le_of_ble_eq_true rfl) (Nat.le_of_ble_eq_true rfl) dX8_hasSides_27 (zB01 (by omega)) (by omega)
      · refine z_iload_n (pc := 16) 1 gg dX8_hasSides_16 rfl rfl ?_
        refine z_bipush (pc := 17) gg dX8_hasSides_17 (by decide +kernel) ?_
        refine z_icmp_gt (pc := 19) 26 gg dX8_hasSides_19 (by decide) ⟨by omega, by omega⟩ ⟨by omega, by omega⟩ (fun h19 => ?_) (fun h19 => ?_)
        · refine z_iconst (pc := 26) gg dX8_hasSides_26 ?_
          exact hret 0 () 27 _ _ _ (Nat.le_of_ble_eq_true rfl) (Nat.le_of_ble_eq_true rfl) dX8_hasSides_27 (zB01 (by omega)) (by omega)
        · refine z_iconst (pc := 22) gg dX8_hasSides_22 ?_
          refine z_goto (pc := 23) 27 gg dX8_hasSides_23 (by decide) ?_
          exact hret 1 () 27 _ _ _ (Nat.le_of_ble_eq_true rfl) (Nat.le_of_ble_eq_true rfl) dX8_hasSides_27 (zB01 (by omega)) (by omega)
set_option maxHeartbeats 4000000 in
set_option maxRecDepth 100000 in
theorem c_S_has (M : KM) (h w0 h0 v0 n : Nat) (sw sh sv : Nat → Int) (b : Int) (hn : n ≤ 6) (hb : zR b) : kCI M yX8_has cX8_has 2 .boolean 0 0 0 [cO 8 h [.int (zI (n : Int)), .ref w0, .ref h0, .ref v0], cI M w0 6 sw, cI M h0 6 sh, cI M v0 6 sv] [.ref h, .int (zI b)] (fun z (u : Unit) => (z = 1 ∧ 0 ≤ b ∧ b < n) ∨ (z = 0 ∧ (b < 0 ∨ (n : Int) ≤ b))) (fun u => [cO 8 h [.int (zI (n : Int)), .ref w0, .ref h0, .ref v0], cI M w0 6 sw, cI M h0 6 sh, cI M v0 6 sv]) := by
  refine kCI.of [(0, .ref h), (1, .int (zI b))] (by decide) (Nat.le_of_ble_eq_true rfl) rfl (fun E gg hret => ?_)
  have r1_hb := hb.1
  have r2_hb := hb.2
  refine z_iload_n (pc := 0) 1 gg dX8_has_0 rfl rfl ?_
  refine z_if_lt (pc := 1) 16 gg dX8_has_1 (by decide) ⟨by omega, by omega⟩ (fun h1 => ?_) (fun h1 => ?_)
  · refine z_iconst (pc := 16) gg dX8_has_16 ?_
    exact hret 0 () 17 _ _ _ (Nat.le_of_ble_eq_true rfl) (Nat.le_of_ble_eq_true rfl) dX8_has_17 (zB01 (by omega)) (by omega)
  · refine z_iload_n (pc := 4) 1 gg dX8_has_4 rfl rfl ?_
    refine z_aload_n (pc := 5) 0 gg dX8_has_5 rfl rfl ?_
    refine z_get (pc := 6) 0 gg fl_X8_9 dX8_has_6 rfl rfl ?_
    refine z_icmp_ge (pc := 9) 16 gg dX8_has_9 (by decide) ⟨by omega, by omega⟩ ⟨by omega, by omega⟩ (fun h9 => ?_) (fun h9 => ?_)
    · refine z_iconst (pc := 16) gg dX8_has_16 ?_
      exact hret 0 () 17 _ _ _ (Nat.le_of_ble_eq_true rfl) (Nat.le_of_ble_eq_true rfl) dX8_has_17 (zB01 (by omega)) (by omega)
    · refine z_iconst (pc := 12) gg dX8_has_12 ?_
      refine z_goto (pc := 13) 17 gg dX8_has_13 (by decide) ?_
      exact hret 1 () 17 _ _ _ (Nat.le_of_ble_eq_true rfl) (Nat.le_of_ble_eq_true rfl) dX8_has_17 (zB01 (by omega)) (by omega)
set_option maxHeartbeats 4000000 in
set_option maxRecDepth 100000 in
theorem c_S_add_ok (M : KM) (h w0 h0 v0 n : Nat) (sw sh sv : Nat → Int) (w x v : Int) (hn : n < 6) (hw : 1 ≤ w ∧ w ≤ 24) (hx : 1 ≤ x ∧ x ≤ 24) (hv : 1 ≤ v ∧ v ≤ 999) : kCI M yX8_add cX8_add 4 .int 1 0 0 [cO 8 h [.int (zI (n : Int)), .ref w0, .ref h0, .ref v0], cI M w0 6 sw, cI M h0 6 sh, cI M v0 6 sv] [.ref h, .int (zI w), .int (zI x), .int (zI v)] (fun z (u : Unit) => z = n) (fun u => [cO 8 h [.int (zI ((n : Int) + 1)), .ref w0, .ref h0, .ref v0], cI M w0 6 (zU sw n w), cI M h0 6 (zU sh n x), cI M v0 6 (zU sv n v)]) := by
  refine kCI.of [(0, .ref h), (1, .int (zI w)), (2, .int (zI x)), (3, .int (zI v))] (by decide) (Nat.le_of_ble_eq_true rfl) rfl (fun E gg hret => ?_)
  refine z_aload_n (pc := 0) 0 gg dX8_add_0 rfl rfl ?_
  refine z_get (pc := 1) 0 gg fl_X8_9 dX8_add_1 rfl rfl ?_
  refine z_bipush (pc := 4) gg dX8_add_4 (by decide +kernel) ?_
  refine z_icmp_ge (pc := 6) 29 gg dX8_add_6 (by decide) ⟨by omega, by omega⟩ ⟨by omega, by omega⟩ (fun h6 => ?_) (fun h6 => ?_)
  · exfalso; omega
  · refine z_iload_n (pc := 9) 1 gg dX8_add_9 rfl rfl ?_
    refine z_iload_n (pc := 10) 2 gg dX8_add_10 rfl rfl ?_
    refine z_callS (pc := 11) (As := [.int (zI w), .int (zI x)]) (st := []) gg (c_S_hasSides M w x (by first | assumption | omega | exact ⟨by omega, by omega⟩) (by first | assumption | omega | exact ⟨by omega, by omega⟩)) ys_8_hasSides ml_X8_25 dX8_add_11 (by decide) (Nat.le_of_ble_eq_true rfl) (Nat.le_of_ble_eq_true rfl) (Nat.le_of_ble_eq_true rfl) rfl rfl (fun z11 u11 hz11 => ?_)
    refine z_if_eq (pc := 14) 29 gg dX8_add_14 (by decide) ⟨by omega, by omega⟩ (fun h14 => ?_) (fun h14 => ?_)
    · exfalso; omega
    · refine z_iload_n (pc := 17) 3 gg dX8_add_17 rfl rfl ?_
      refine z_iconst (pc := 18) gg dX8_add_18 ?_
      refine z_icmp_lt (pc := 19) 29 gg dX8_add_19 (by decide) ⟨by omega, by omega⟩ ⟨by omega, by omega⟩ (fun h19 => ?_) (fun h19 => ?_)
      · exfalso; omega
      · refine z_iload_n (pc := 22) 3 gg dX8_add_22 rfl rfl ?_
        refine z_sipush (pc := 23) gg dX8_add_23 (by decide +kernel) ?_
        refine z_icmp_le (pc := 26) 31 gg dX8_add_26 (by decide) ⟨by omega, by omega⟩ ⟨by omega, by omega⟩ (fun h26 => ?_) (fun h26 => ?_)
        · refine z_aload_n (pc := 31) 0 gg dX8_add_31 rfl rfl ?_
          refine z_get (pc := 32) 0 gg fl_X8_15 dX8_add_32 rfl rfl ?_
          refine z_aload_n (pc := 35) 0 gg dX8_add_35 rfl rfl ?_
          refine z_get (pc := 36) 0 gg fl_X8_9 dX8_add_36 rfl rfl ?_
          refine z_iload_n (pc := 39) 1 gg dX8_add_39 rfl rfl ?_
          refine z_iast (pc := 40) 1 n [cO 8 h [.int (zI (n : Int)), .ref w0, .ref h0, .ref v0], cI M w0 6 (zU sw n w), cI M h0 6 sh, cI M v0 6 sv] gg dX8_add_40 rfl (by omega) (by omega) (by decide) rfl ?_
          refine z_aload_n (pc := 41) 0 gg dX8_add_41 rfl rfl ?_
          refine z_get (pc := 42) 0 gg fl_X8_19 dX8_add_42 rfl rfl ?_
          refine z_aload_n (pc := 45) 0 gg dX8_add_45 rfl rfl ?_
          refine z_get (pc := 46) 0 gg fl_X8_9 dX8_add_46 rfl rfl ?_
          refine z_iload_n (pc := 49) 2 gg dX8_add_49 rfl rfl ?_
          refine z_iast (pc := 50) 2 n [cO 8 h [.int (zI (n : Int)), .ref w0, .ref h0, .ref v0], cI M w0 6 (zU sw n w), cI M h0 6 (zU sh n x), cI M v0 6 sv] gg dX8_add_50 rfl (by omega) (by omega) (by decide) rfl ?_
          refine z_aload_n (pc := 51) 0 gg dX8_add_51 rfl rfl ?_
          refine z_get (pc := 52) 0 gg fl_X8_22 dX8_add_52 rfl rfl ?_
          refine z_aload_n (pc := 55) 0 gg dX8_add_55 rfl rfl ?_
          refine z_get (pc := 56) 0 gg fl_X8_9 dX8_add_56 rfl rfl ?_
          refine z_iload_n (pc := 59) 3 gg dX8_add_59 rfl rfl ?_
          refine z_iast (pc := 60) 3 n [cO 8 h [.int (zI (n : Int)), .ref w0, .ref h0, .ref v0], cI M w0 6 (zU sw n w), cI M h0 6 (zU sh n x), cI M v0 6 (zU sv n v)] gg dX8_add_60 rfl (by omega) (by omega) (by decide) rfl ?_
          refine z_aload_n (pc := 61) 0 gg dX8_add_61 rfl rfl ?_
          refine z_dup (pc := 62) gg dX8_add_62 rfl ?_
          refine z_get (pc := 63) 0 gg fl_X8_9 dX8_add_63 rfl rfl ?_
          refine z_iconst (pc := 66) gg dX8_add_66 ?_
          refine z_iadd (pc := 67) gg dX8_add_67 ?_
          refine z_put (pc := 68) 0 [cO 8 h [.int (zI ((n : Int) + 1)), .ref w0, .ref h0, .ref v0], cI M w0 6 (zU sw n w), cI M h0 6 (zU sh n x), cI M v0 6 (zU sv n v)] gg fp_X8_9 dX8_add_68 rfl rfl rfl (Nat.le_of_ble_eq_true rfl) rfl ?_
          refine z_aload_n (pc := 71) 0 gg dX8_add_71 rfl rfl ?_
          refine z_get (pc := 72) 0 gg fl_X8_9 dX8_add_72 rfl rfl ?_
          refine z_iconst (pc := 75) gg dX8_add_75 ?_
          refine z_isub (pc := 76) gg dX8_add_76 ?_
          exact hret (((n : Int) + 1) - 1) () 77 _ _ _ (Nat.le_of_ble_eq_true rfl) (Nat.le_of_ble_eq_true rfl) dX8_add_77 rfl (by omega)
        · exfalso; omega
set_option maxHeartbeats 4000000 in
set_option maxRecDepth 100000 in
theorem c_S_add_no (M : KM) (h w0 h0 v0 n : Nat) (sw sh sv : Nat → Int) (w x v : Int) (hn : n ≤ 6) (hw : zR w) (hx : zR x) (hv : zR v) (hc : n = 6 ∨ w < 1 ∨ 24 < w ∨ x < 1 ∨ 24 < x ∨ v < 1 ∨ 999 < v) : kCI M yX8_add cX8_add 4 .int 1 0 0 [cO 8 h [.int (zI (n : Int)), .ref w0, .ref h0, .ref v0], cI M w0 6 sw, cI M h0 6 sh, cI M v0 6 sv] [.ref h, .int (zI w), .int (zI x), .int (zI v)] (fun z (u : Unit) => z = -1) (fun u => [cO 8 h [.int (zI (n : Int)), .ref w0, .ref h0, .ref v0], cI M w0 6 sw, cI M h0 6 sh, cI M v0 6 sv]) := by
  refine kCI.of [(0, .ref h), (1, .int (zI w)), (2, .int (zI x)), (3, .int (zI v))] (by decide) (Nat.le_of_ble_eq_true rfl) rfl (fun E gg hret => ?_)
  have r1_hw := hw.1
  have r2_hw := hw.2
  have r1_hx := hx.1
  have r2_hx := hx.2
  have r1_hv := hv.1
  have r2_hv := hv.2
  refine z_aload_n (pc := 0) 0 gg dX8_add_0 rfl rfl ?_
  refine z_get (pc := 1) 0 gg fl_X8_9 dX8_add_1 rfl rfl ?_
  refine z_bipush (pc := 4) gg dX8_add_4 (by decide +kernel) ?_
  refine z_icmp_ge (pc := 6) 29 gg dX8_add_6 (by decide) ⟨by omega, by omega⟩ ⟨by omega, by omega⟩ (fun h6 => ?_) (fun h6 => ?_)
  · refine z_iconst (pc := 29) gg dX8_add_29 ?_
    exact hret (-1) () 30 _ _ _ (Nat.le_of_ble_eq_true rfl) (Nat.le_of_ble_eq_true rfl) dX8_add_30 rfl (by omega)
  · refine z_iload_n (pc := 9) 1 gg dX8_add_9 rfl rfl ?_
    refine z_iload_n (pc := 10) 2 gg dX8_add_10 rfl rfl ?_
    refine z_callS (pc := 11) (As := [.int (zI w), .int (zI x)]) (st := []) gg (c_S_hasSides M w x (by first | assumption | omega | exact ⟨by omega, by omega⟩) (by first | assumption | omega | exact ⟨by omega, by omega⟩)) ys_8_hasSides ml_X8_25 dX8_add_11 (by decide) (Nat.le_of_ble_eq_true rfl) (Nat.le_of_ble_eq_true rfl) (Nat.le_of_ble_eq_true rfl) rfl rfl (fun z11 u11 hz11 => ?_)
    refine z_if_eq (pc := 14) 29 gg dX8_add_14 (by decide) ⟨by omega, by omega⟩ (fun h14 => ?_) (fun h14 => ?_)
    · refine z_iconst (pc := 29) gg dX8_add_29 ?_
      exact hret (-1) () 30 _ _ _ (Nat.le_of_ble_eq_true rfl) (Nat.le_of_ble_eq_true rfl) dX8_add_30 rfl (by omega)
    · refine z_iload_n (pc := 17) 3 gg dX8_add_17 rfl rfl ?_
      refine z_iconst (pc := 18) gg dX8_add_18 ?_
      refine z_icmp_lt (pc := 19) 29 gg dX8_add_19 (by decide) ⟨by omega, by omega⟩ ⟨by omega, by omega⟩ (fun h19 => ?_) (fun h19 => ?_)
      · refine z_iconst (pc := 29) gg dX8_add_29 ?_
        exact hret (-1) () 30 _ _ _ (Nat.le_of_ble_eq_true rfl) (Nat.le_of_ble_eq_true rfl) dX8_add_30 rfl (by omega)
      · refine z_iload_n (pc := 22) 3 gg dX8_add_22 rfl rfl ?_
        refine z_sipush (pc := 23) gg dX8_add_23 (by decide +kernel) ?_
        refine z_icmp_le (pc := 26) 31 gg dX8_add_26 (by decide) ⟨by omega, by omega⟩ ⟨by omega, by omega⟩ (fun h26 => ?_) (fun h26 => ?_)
        · exfalso; omega
        · refine z_iconst (pc := 29) gg dX8_add_29 ?_
          exact hret (-1) () 30 _ _ _ (Nat.le_of_ble_eq_true rfl) (Nat.le_of_ble_eq_true rfl) dX8_add_30 rfl (by omega)
set_option maxHeartbeats 4000000 in
set_option maxRecDepth 100000 in
theorem c_S_worthOf (M : KM) (h w0 h0 v0 n : Nat) (sw sh sv : Nat → Int) (b : Int) (hn : n ≤ 6) (hb : -1 ≤ b ∧ b < n) : kCI M yX8_worthOf cX8_worthOf 2 .int 1 0 0 [cO 8 h [.int (zI (n : Int)), .ref w0, .ref h0, .ref v0], cI M w0 6 sw, cI M h0 6 sh, cI M v0 6 sv] [.ref h, .int (zI b)] (fun z (u : Unit) => z = dW sv b) (fun u => [cO 8 h [.int (zI (n : Int)), .ref w0, .ref h0, .ref v0], cI M w0 6 sw, cI M h0 6 sh, cI M v0 6 sv]) := by
  refine kCI.of [(0, .ref h), (1, .int (zI b))] (by decide) (Nat.le_of_ble_eq_true rfl) rfl (fun E gg hret => ?_)
  refine z_aload_n (pc := 0) 0 gg dX8_worthOf_0 rfl rfl ?_
  refine z_iload_n (pc := 1) 1 gg dX8_worthOf_1 rfl rfl ?_
  refine z_callWi (pc := 2) (As := [.int (zI b)]) (st := []) gg (c_S_has M h w0 h0 v0 n sw sh sv b (by first | assumption | omega | exact ⟨by omega, by omega⟩) (by first | assumption | omega | exact ⟨by omega, by omega⟩)) yv_8_has ml_X8_29 dX8_worthOf_2 (by decide) (Nat.le_of_ble_eq_true rfl) (Nat.le_of_ble_eq_true rfl) (Nat.le_of_ble_eq_true rfl) rfl rfl rfl (fun z2 u2 hz2 => ?_)
  refine z_if_eq (pc := 5) 17 gg dX8_worthOf_5 (by decide) ⟨by omega, by omega⟩ (fun h5 => ?_) (fun h5 => ?_)
  · refine z_iconst (pc := 17) gg dX8_worthOf_17 ?_
    exact hret 0 () 18 _ _ _ (Nat.le_of_ble_eq_true rfl) (Nat.le_of_ble_eq_true rfl) dX8_worthOf_18 rfl (by unfold dW; rw [if_pos (by omega)])
  · refine z_aload_n (pc := 8) 0 gg dX8_worthOf_8 rfl rfl ?_
    refine z_get (pc := 9) 0 gg fl_X8_22 dX8_worthOf_9 rfl rfl ?_
    refine z_iload_n (pc := 12) 1 gg dX8_worthOf_12 rfl rfl ?_
    refine z_iald (pc := 13) 3 b.toNat gg dX8_worthOf_13 rfl (by omega) (by omega) (by decide) ?_
    refine z_goto (pc := 14) 18 gg dX8_worthOf_14 (by decide) ?_
    exact hret (sv b.toNat) () 18 _ _ _ (Nat.le_of_ble_eq_true rfl) (Nat.le_of_ble_eq_true rfl) dX8_worthOf_18 rfl (by unfold dW; rw [if_neg (by omega)])
set_option maxHeartbeats 4000000 in
set_option maxRecDepth 100000 in
theorem c_S_dearestIn (M : KM) (h w0 h0 v0 n : Nat) (sw sh sv : Nat → Int) (w x : Int) (hn : n ≤ 6) (hw : 1 ≤ w ∧ w ≤ 24) (hx : 1 ≤ x ∧ x ≤ 24) (hs : ∀ j, j < 6 → 0 ≤ sw j ∧ sw j ≤ 24 ∧ 0 ≤ sh j ∧ sh j ≤ 24 ∧ 0 ≤ sv j ∧ sv j ≤ 999) : kCI M yX8_dearestIn cX8_dearestIn 5 .int 2 0 0 [cO 8 h [.int (zI (n : Int)), .ref w0, .ref h0, .ref v0], cI M w0 6 sw, cI M h0 6 sh, cI M v0 6 sv] [.ref h, .int (zI w), .int (zI x)] (fun z (u : Unit) => z = dI sw sh sv w x n) (fun u => [cO 8 h [.int (zI (n : Int)), .ref w0, .ref h0, .ref v0], cI M w0 6 sw, cI M h0 6 sh, cI M v0 6 sv]) := by
  refine kCI.of [(0, .ref h), (1, .int (zI w)), (2, .int (zI x))] (by decide) (Nat.le_of_ble_eq_true rfl) rfl (fun E gg hret => ?_)
  refine z_iconst (pc := 0) gg dX8_dearestIn_0 ?_
  refine z_istore_n (pc := 1) [(3, .int (zI (-1))), (0, .ref h), (1, .int (zI w)), (2, .int (zI x))] gg dX8_dearestIn_1 rfl (Nat.le_of_ble_eq_true rfl) rfl ?_
  refine z_iconst (pc := 2) gg dX8_dearestIn_2 ?_
  refine z_istore (pc := 3) [(4, .int (zI 0)), (3, .int (zI (-1))), (0, .ref h), (1, .int (zI w)), (2, .int (zI x))] gg dX8_dearestIn_3 (Nat.le_of_ble_eq_true rfl) rfl ?_
  have loop5 : ∀ (k5 : Nat) (i f : Int), (0 ≤ i ∧ i ≤ n) → (f = dI sw sh sv w x i.toNat) → (n : Int).toNat - i.toNat < k5 → kV M E 5 0 0 [cO 8 h [.int (zI (n : Int)), .ref w0, .ref h0, .ref v0], cI M w0 6 sw, cI M h0 6 sh, cI M v0 6 sv] [(4, .int (zI i)), (3, .int (zI f)), (0, .ref h), (1, .int (zI w)), (2, .int (zI x))] 5 [] := by
    intro k5
    induction k5 with
    | zero => intro i f hi hf hm5; exact absurd hm5 (Nat.not_lt_zero _)
    | succ k5 ih5 =>
      intro i f hi hf hm5
      have el := dI_lo sw sh sv w x i.toNat
      refine z_iload (pc := 5) 0 gg dX8_dearestIn_5 rfl ?_
      refine z_aload_n (pc := 7) 2 gg dX8_dearestIn_7 rfl rfl ?_
      refine z_get (pc := 8) 0 gg fl_X8_9 dX8_dearestIn_8 rfl rfl ?_
      refine z_icmp_ge (pc := 11) 67 gg dX8_dearestIn_11 (by decide) ⟨by omega, by omega⟩ ⟨by omega, by omega⟩ (fun h11 => ?_) (fun h11 => ?_)
      · refine z_iload_n (pc := 67) 1 gg dX8_dearestIn_67 rfl rfl ?_
        exact hret f () 68 _ _ _ (Nat.le_of_ble_eq_true rfl) (Nat.le_of_ble_eq_true rfl) dX8_dearestIn_68 rfl (by rw [hf]; congr 1; omega)
      · refine z_iload (pc := 14) 0 gg dX8_dearestIn_14 rfl ?_
        refine z_bipush (pc := 16) gg dX8_dearestIn_16 (by decide +kernel) ?_
        refine z_icmp_ge (pc := 18) 67 gg dX8_dearestIn_18 (by decide) ⟨by omega, by omega⟩ ⟨by omega, by omega⟩ (fun h18 => ?_) (fun h18 => ?_)
        · exfalso; omega
        · have hs1 := hs i.toNat (by omega)
          refine z_aload_n (pc := 21) 2 gg dX8_dearestIn_21 rfl rfl ?_
          refine z_get (pc := 22) 0 gg fl_X8_15 dX8_dearestIn_22 rfl rfl ?_
          refine z_iload (pc := 25) 0 gg dX8_dearestIn_25 rfl ?_
          refine z_iald (pc := 27) 1 i.toNat gg dX8_dearestIn_27 rfl (by omega) (by omega) (by decide) ?_
          refine z_iload_n (pc := 28) 3 gg dX8_dearestIn_28 rfl rfl ?_
          refine z_icmp_gt (pc := 29) 61 gg dX8_dearestIn_29 (by decide) ⟨by omega, by omega⟩ ⟨by omega, by omega⟩ (fun h29 => ?_) (fun h29 => ?_)
          · refine z_iinc (pc := 61) 0 [(4, .int (zI (i + 1))), (3, .int (zI f)), (0, .ref h), (1, .int (zI w)), (2, .int (zI x))] gg dX8_dearestIn_61 rfl (Nat.le_of_ble_eq_true rfl) rfl ?_
            refine z_goto (pc := 64) 5 gg dX8_dearestIn_64 (by decide) ?_
            exact ih5 (i + 1) f (by omega) (by rw [dI_step (by omega), ← hf]; rw [if_neg]; rintro ⟨e1, e2, e3⟩; omega) (by omega)
          · refine z_aload_n (pc := 32) 2 gg dX8_dearestIn_32 rfl rfl ?_
            refine z_get (pc := 33) 0 gg fl_X8_19 dX8_dearestIn_33 rfl rfl ?_
            refine z_iload (pc := 36) 0 gg dX8_dearestIn_36 rfl ?_
            refine z_iald (pc := 38) 2 i.toNat gg dX8_dearestIn_38 rfl (by omega) (by omega) (by decide) ?_
            refine z_iload_n (pc := 39) 4 gg dX8_dearestIn_39 rfl rfl ?_
            refine z_icmp_gt (pc := 40) 61 gg dX8_dearestIn_40 (by decide) ⟨by omega, by omega⟩ ⟨by omega, by omega⟩ (fun h40 => ?_) (fun h40 => ?_)
            · refine z_iinc (pc := 61) 0 [(4, .int (zI (i + 1))), (3, .int (zI f)), (0, .ref h), (1, .int (zI w)), (2, .int (zI x))] gg dX8_dearestIn_61 rfl (Nat.le_of_ble_eq_true rfl) rfl ?_
              refine z_goto (pc := 64) 5 gg dX8_dearestIn_64 (by decide) ?_
              exact ih5 (i + 1) f (by omega) (by rw [dI_step (by omega), ← hf]; rw [if_neg]; rintro ⟨e1, e2, e3⟩; omega) (by omega)
            · refine z_aload_n (pc := 43) 2 gg dX8_dearestIn_43 rfl rfl ?_
              refine z_get (pc := 44) 0 gg fl_X8_22 dX8_dearestIn_44 rfl rfl ?_
              refine z_iload (pc := 47) 0 gg dX8_dearestIn_47 rfl ?_
              refine z_iald (pc := 49) 3 i.toNat gg dX8_dearestIn_49 rfl (by omega) (by omega) (by decide) ?_
              refine z_aload_n (pc := 50) 2 gg dX8_dearestIn_50 rfl rfl ?_
              refine z_iload_n (pc := 51) 1 gg dX8_dearestIn_51 rfl rfl ?_
              refine z_callWi (pc := 52) (As := [.int (zI f)]) (st := [.int (zI (sv i.toNat))]) gg (c_S_worthOf M h w0 h0 v0 n sw sh sv f (by first | assumption | omega | exact ⟨by omega, by omega⟩) (by first | assumption | omega | exact ⟨by omega, by omega⟩)) yv_8_worthOf ml_X8_33 dX8_dearestIn_52 (by decide) (Nat.le_of_ble_eq_true rfl) (Nat.le_of_ble_eq_true rfl) (Nat.le_of_ble_eq_true rfl) rfl rfl rfl (fun z52 u52 hz52 => ?_)
              have ed : 0 ≤ z52 ∧ z52 ≤ 999 := by
                rw [hz52]; unfold dW; split
                · omega
                · have := hs f.toNat (by omega); omega
              refine z_icmp_le (pc := 55) 61 gg dX8_dearestIn_55 (by decide) ⟨by omega, by omega⟩ ⟨by omega, by omega⟩ (fun h55 => ?_) (fun h55 => ?_)
              · refine z_iinc (pc := 61) 0 [(4, .int (zI (i + 1))), (3, .int (zI f)), (0, .ref h), (1, .int (zI w)), (2, .int (zI x))] gg dX8_dearestIn_61 rfl (Nat.le_of_ble_eq_true rfl) rfl ?_
                refine z_goto (pc := 64) 5 gg dX8_dearestIn_64 (by decide) ?_
                exact ih5 (i + 1) f (by omega) (by rw [dI_step (by omega), ← hf]; rw [if_neg]; rintro ⟨e1, e2, e3⟩; omega) (by omega)
              · refine z_iload (pc := 58) 0 gg dX8_dearestIn_58 rfl ?_
                refine z_istore_n (pc := 60) [(3, .int (zI i)), (4, .int (zI i)), (0, .ref h), (1, .int (zI w)), (2, .int (zI x))] gg dX8_dearestIn_60 rfl (Nat.le_of_ble_eq_true rfl) rfl ?_
                refine z_iinc (pc := 61) 1 [(4, .int (zI (i + 1))), (3, .int (zI i)), (0, .ref h), (1, .int (zI w)), (2, .int (zI x))] gg dX8_dearestIn_61 rfl (Nat.le_of_ble_eq_true rfl) rfl ?_
                refine z_goto (pc := 64) 5 gg dX8_dearestIn_64 (by decide) ?_
                exact ih5 (i + 1) i (by omega) (by rw [dI_step (by omega), ← hf]; rw [if_pos ⟨by omega, by omega, by omega⟩]) (by omega)
  exact loop5 _ 0 (-1) (by omega) rfl (Nat.lt_succ_self _)
set_option maxHeartbeats 4000000 in
set_option maxRecDepth 100000 in
theorem c_S_copyFrom (M : KM) (h w0 h0 v0 n : Nat) (sw sh sv : Nat → Int) (h2 w2 x2 v2 n2 : Nat) (sw2 sh2 sv2 : Nat → Int)  : kCV M yX8_copyFrom cX8_copyFrom 2 1 0 0 [cO 8 h [.int (zI (n : Int)), .ref w0, .ref h0, .ref v0], cI M w0 6 sw, cI M h0 6 sh, cI M v0 6 sv, cO 8 h2 [.int (zI (n2 : Int)), .ref w2, .ref x2, .ref v2], cI M w2 6 sw2, cI M x2 6 sh2, cI M v2 6 sv2] [.ref h, .ref h2] (fun u : Unit => True) (fun u => [cO 8 h [.int (zI (n2 : Int)), .ref w0, .ref h0, .ref v0], cI M w0 6 sw2, cI M h0 6 sh2, cI M v0 6 sv2, cO 8 h2 [.int (zI (n2 : Int)), .ref w2, .ref x2, .ref v2], cI M w2 6 sw2, cI M x2 6 sh2, cI M v2 6 sv2]) := by
  refine kCV.of [(0, .ref h), (1, .ref h2)] (by decide) (Nat.le_of_ble_eq_true rfl) rfl (fun E gg gn hret => ?_)
  refine z_aload_n (pc := 0) 0 gg dX8_copyFrom_0 rfl rfl ?_
  refine z_aload_n (pc := 1) 1 gg dX8_copyFrom_1 rfl rfl ?_
  refine z_get (pc := 2) 4 gg fl_X8_9 dX8_copyFrom_2 rfl rfl ?_
  refine z_put (pc := 5) 0 [cO 8 h [.int (zI (n2 : Int)), .ref w0, .ref h0, .ref v0], cI M w0 6 sw, cI M h0 6 sh, cI M v0 6 sv, cO 8 h2 [.int (zI (n2 : Int)), .ref w2, .ref x2, .ref v2], cI M w2 6 sw2, cI M x2 6 sh2, cI M v2 6 sv2] gg fp_X8_9 dX8_copyFrom_5 rfl rfl rfl (Nat.le_of_ble_eq_true rfl) rfl ?_
  refine z_aload_n (pc := 8) 1 gg dX8_copyFrom_8 rfl rfl ?_
  refine z_get (pc := 9) 4 gg fl_X8_15 dX8_copyFrom_9 rfl rfl ?_
  refine z_iconst (pc := 12) gg dX8_copyFrom_12 ?_
  refine z_aload_n (pc := 13) 0 gg dX8_copyFrom_13 rfl rfl ?_
  refine z_get (pc := 14) 0 gg fl_X8_15 dX8_copyFrom_14 rfl rfl ?_
  refine z_iconst (pc := 17) gg dX8_copyFrom_17 ?_
  refine z_bipush (pc := 18) gg dX8_copyFrom_18 (by decide +kernel) ?_
  refine z_copy (pc := 20) 5 1 [cO 8 h [.int (zI (n2 : Int)), .ref w0, .ref h0, .ref v0], cI M w0 6 sw2, cI M h0 6 sh, cI M v0 6 sv, cO 8 h2 [.int (zI (n2 : Int)), .ref w2, .ref x2, .ref v2], cI M w2 6 sw2, cI M x2 6 sh2, cI M v2 6 sv2] gg dX8_copyFrom_20 ml_X8_37 ac_1 ac_2 ac_3 (by decide) (Nat.le_of_ble_eq_true rfl) rfl rfl rfl (by decide) rfl ?_
  refine z_aload_n (pc := 23) 1 gg dX8_copyFrom_23 rfl rfl ?_
  refine z_get (pc := 24) 4 gg fl_X8_19 dX8_copyFrom_24 rfl rfl ?_
  refine z_iconst (pc := 27) gg dX8_copyFrom_27 ?_
  refine z_aload_n (pc := 28) 0 gg dX8_copyFrom_28 rfl rfl ?_
  refine z_get (pc := 29) 0 gg fl_X8_19 dX8_copyFrom_29 rfl rfl ?_
  refine z_iconst (pc := 32) gg dX8_copyFrom_32 ?_
  refine z_bipush (pc := 33) gg dX8_copyFrom_33 (by decide +kernel) ?_
  refine z_copy (pc := 35) 6 2 [cO 8 h [.int (zI (n2 : Int)), .ref w0, .ref h0, .ref v0], cI M w0 6 sw2, cI M h0 6 sh2, cI M v0 6 sv, cO 8 h2 [.int (zI (n2 : Int)), .ref w2, .ref x2, .ref v2], cI M w2 6 sw2, cI M x2 6 sh2, cI M v2 6 sv2] gg dX8_copyFrom_35 ml_X8_37 ac_1 ac_2 ac_3 (by decide) (Nat.le_of_ble_eq_true rfl) rfl rfl rfl (by decide) rfl ?_
  refine z_aload_n (pc := 38) 1 gg dX8_copyFrom_38 rfl rfl ?_
  refine z_get (pc := 39) 4 gg fl_X8_22 dX8_copyFrom_39 rfl rfl ?_
  refine z_iconst (pc := 42) gg dX8_copyFrom_42 ?_
  refine z_aload_n (pc := 43) 0 gg dX8_copyFrom_43 rfl rfl ?_
  refine z_get (pc := 44) 0 gg fl_X8_22 dX8_copyFrom_44 rfl rfl ?_
  refine z_iconst (pc := 47) gg dX8_copyFrom_47 ?_
  refine z_bipush (pc := 48) gg dX8_copyFrom_48 (by decide +kernel) ?_
  refine z_copy (pc := 50) 7 3 [cO 8 h [.int (zI (n2 : Int)), .ref w0, .ref h0, .ref v0], cI M w0 6 sw2, cI M h0 6 sh2, cI M v0 6 sv2, cO 8 h2 [.int (zI (n2 : Int)), .ref w2, .ref x2, .ref v2], cI M w2 6 sw2, cI M x2 6 sh2, cI M v2 6 sv2] gg dX8_copyFrom_50 ml_X8_37 ac_1 ac_2 ac_3 (by decide) (Nat.le_of_ble_eq_true rfl) rfl rfl rfl (by decide) rfl ?_
  exact hret () 53 _ _ _ (Nat.le_of_ble_eq_true rfl) (Nat.le_of_ble_eq_true rfl) dX8_copyFrom_53 trivial
set_option maxHeartbeats 4000000 in
set_option maxRecDepth 100000 in
theorem c_S_init (M : KM) (h : Nat)  : kCV M yX8_init cX8_init 1 1 3 18 [cO 8 h [.int (zI 0), .null, .null, .null]] [.ref h] (fun u : Nat × Nat × Nat => True) (fun u => [cO 8 h [.int (zI 0), .ref u.1, .ref u.2.1, .ref u.2.2], cI M u.1 6 (fun _ => 0), cI M u.2.1 6 (fun _ => 0), cI M u.2.2 6 (fun _ => 0)]) := by
  refine kCV.of [(0, .ref h)] (by decide) (Nat.le_of_ble_eq_true rfl) rfl (fun E gg gn hret => ?_)
  refine z_aload_n (pc := 0) 0 gg dX8_init_0 rfl rfl ?_
  refine z_obj (pc := 1) gg dX8_init_1 ml_X8_3 oi_1 oi_2 (by decide) (Nat.le_of_ble_eq_true rfl) ?_
  refine z_aload_n (pc := 4) 0 gg dX8_init_4 rfl rfl ?_
  refine z_iconst (pc := 5) gg dX8_init_5 ?_
  refine z_put (pc := 6) 0 [cO 8 h [.int (zI 0), .null, .null, .null]] gg fp_X8_9 dX8_init_6 rfl rfl rfl (Nat.le_of_ble_eq_true rfl) rfl ?_
  refine z_aload_n (pc := 9) 0 gg dX8_init_9 rfl rfl ?_
  refine z_bipush (pc := 10) gg dX8_init_10 (by decide +kernel) ?_
  refine z_newaI (pc := 12) gg dX8_init_12 ar_I rfl (by decide) (Nat.le_of_ble_eq_true rfl) (Nat.le_of_ble_eq_true rfl) (fun q1 => ?_)
  show kV M E 1 _ _ [cO 8 h [.int (zI 0), .null, .null, .null], cI M q1 6 (fun _ => 0)] _ _ _
  refine z_putF (pc := 14) 0 [cO 8 h [.int (zI 0), .ref q1, .null, .null], cI M q1 6 (fun _ => 0)] gg gn fp_X8_15 dX8_init_14 rfl rfl rfl (Nat.le_of_ble_eq_true rfl) rfl ?_
  refine z_aload_n (pc := 17) 0 gg dX8_init_17 rfl rfl ?_
  refine z_bipush (pc := 18) gg dX8_init_18 (by decide +kernel) ?_
  refine z_newaI (pc := 20) gg dX8_init_20 ar_I rfl (by decide) (Nat.le_of_ble_eq_true rfl) (Nat.le_of_ble_eq_true rfl) (fun q2 => ?_)
  show kV M E 1 _ _ [cO 8 h [.int (zI 0), .ref q1, .null, .null], cI M q1 6 (fun _ => 0), cI M q2 6 (fun _ => 0)] _ _ _
  refine z_putF (pc := 22) 0 [cO 8 h [.int (zI 0), .ref q1, .ref q2, .null], cI M q1 6 (fun _ => 0), cI M q2 6 (fun _ => 0)] gg gn fp_X8_19 dX8_init_22 rfl rfl rfl (Nat.le_of_ble_eq_true rfl) rfl ?_
  refine z_aload_n (pc := 25) 0 gg dX8_init_25 rfl rfl ?_
  refine z_bipush (pc := 26) gg dX8_init_26 (by decide +kernel) ?_
  refine z_newaI (pc := 28) gg dX8_init_28 ar_I rfl (by decide) (Nat.le_of_ble_eq_true rfl) (Nat.le_of_ble_eq_true rfl) (fun q3 => ?_)
  show kV M E 1 _ _ [cO 8 h [.int (zI 0), .ref q1, .ref q2, .null], cI M q1 6 (fun _ => 0), cI M q2 6 (fun _ => 0), cI M q3 6 (fun _ => 0)] _ _ _
  refine z_putF (pc := 30) 0 [cO 8 h [.int (zI 0), .ref q1, .ref q2, .ref q3], cI M q1 6 (fun _ => 0), cI M q2 6 (fun _ => 0), cI M q3 6 (fun _ => 0)] gg gn fp_X8_22 dX8_init_30 rfl rfl rfl (Nat.le_of_ble_eq_true rfl) rfl ?_
  exact hret (q1, q2, q3) 33 _ _ _ (Nat.le_of_ble_eq_true rfl) (Nat.le_of_ble_eq_true rfl) dX8_init_33 trivial
end
section
set_option maxHeartbeats 4000000 in
set_option maxRecDepth 100000 in
theorem c_D_isState (M : KM) (s : Int) (hs : zR s) : kCI M yX2_isState cX2_isState 1 .boolean 0 0 0 [] [.int (zI s)] (fun z (u : Unit) => (z = 1 ∧ 0 ≤ s ∧ s < 8) ∨ (z = 0 ∧ (s < 0 ∨ 8 ≤ s))) (fun u => []) := by
  refine kCI.of [(0, .int (zI s))] (by decide) (Nat.le_of_ble_eq_true rfl) rfl (fun E gg hret => ?_)
  have r1_hs := hs.1
  have r2_hs := hs.2
  refine z_iload_n (pc := 0) 0 gg dX2_isState_0 rfl rfl ?_
  refine z_if_lt (pc := 1) 14 gg dX2_isState_1 (by decide) ⟨by omega, by omega⟩ (fun h1 => ?_) (fun h1 => ?_)
  · refine z_iconst (pc := 14) gg dX2_isState_14 ?_
    exact hret 0 () 15 _ _ _ (Nat.le_of_ble_eq_true rfl) (Nat.le_of_ble_eq_true rfl) dX2_isState_15 (zB01 (by omega)) (by omega)
  · refine z_iload_n (pc := 4) 0 gg dX2_isState_4 rfl rfl ?_
    refine z_bipush (pc := 5) gg dX2_isState_5 (by decide +kernel) ?_
    refine z_icmp_ge (pc := 7) 14 gg dX2_isState_7 (by decide) ⟨by omega, by omega⟩ ⟨by omega, by omega⟩ (fun h7 => ?_) (fun h7 => ?_)
    · refine z_iconst (pc := 14) gg dX2_isState_14 ?_
      exact hret 0 () 15 _ _ _ (Nat.le_of_ble_eq_true rfl) (Nat.le_of_ble_eq_true rfl) dX2_isState_15 (zB01 (by omega)) (by omega)
    · refine z_iconst (pc := 10) gg dX2_isState_10 ?_
      refine z_goto (pc := 11) 15 gg dX2_isState_11 (by decide) ?_
      exact hret 1 () 15 _ _ _ (Nat.le_of_ble_eq_true rfl) (Nat.le_of_ble_eq_true rfl) dX2_isState_15 (zB01 (by omega)) (by omega)
set_option maxHeartbeats 4000000 in
set_option maxRecDepth 100000 in
theorem c_D_isEvent (M : KM) (s : Int) (hs : zR s) : kCI M yX2_isEvent cX2_isEvent 1 .boolean 0 0 0 [] [.int (zI s)] (fun z (u : Unit) => (z = 1 ∧ 0 ≤ s ∧ s < 4) ∨ (z = 0 ∧ (s < 0 ∨ 4 ≤ s))) (fun u => []) := by
  refine kCI.of [(0, .int (zI s))] (by decide) (Nat.le_of_ble_eq_true rfl) rfl (fun E gg hret => ?_)
  have r1_hs := hs.1
  have r2_hs := hs.2
  refine z_iload_n (pc := 0) 0 gg dX2_isEvent_0 rfl rfl ?_
  refine z_if_lt (pc := 1) 13 gg dX2_isEvent_1 (by decide) ⟨by omega, by omega⟩ (fun h1 => ?_) (fun h1 => ?_)
  · refine z_iconst (pc := 13) gg dX2_isEvent_13 ?_
    exact hret 0 () 14 _ _ _ (Nat.le_of_ble_eq_true rfl) (Nat.le_of_ble_eq_true rfl) dX2_isEvent_14 (zB01 (by omega)) (by omega)
  · refine z_iload_n (pc := 4) 0 gg dX2_isEvent_4 rfl rfl ?_
    refine z_iconst (pc := 5) gg dX2_isEvent_5 ?_
    refine z_icmp_ge (pc := 6) 13 gg dX2_isEvent_6 (by decide) ⟨by omega, by omega⟩ ⟨by omega, by omega⟩ (fun h6 => ?_) (fun h6 => ?_)
    · refine z_iconst (pc := 13) gg dX2_isEvent_13 ?_
      exact hret 0 () 14 _ _ _ (Nat.le_of_ble_eq_true rfl) (Nat.le_of_ble_eq_true rfl) dX2_isEvent_14 (zB01 (by omega)) (by omega)
    · refine z_iconst (pc := 9) gg dX2_isEvent_9 ?_
      refine z_goto (pc := 10) 14 gg dX2_isEvent_10 (by decide) ?_
      exact hret 1 () 14 _ _ _ (Nat.le_of_ble_eq_true rfl) (Nat.le_of_ble_eq_true rfl) dX2_isEvent_14 (zB01 (by omega)) (by omega)
set_option maxHeartbeats 4000000 in
set_option maxRecDepth 100000 in
theorem c_D_lead_ok (M : KM) (h l0 f0 w0 : Nat) (dl df dw : Nat → Int) (s e t : Int) (hs : 0 ≤ s ∧ s < 8) (he : 0 ≤ e ∧ e < 4) (ht : 0 ≤ t ∧ t < 8) : kCI M yX2_lead cX2_lead 4 .boolean 1 0 0 [cO 2 h [.ref l0, .ref f0, .ref w0], cI M l0 32 dl, cZ M f0 8 df, cZ M w0 8 dw] [.ref h, .int (zI s), .int (zI e), .int (zI t)] (fun z (u : Unit) => z = 1) (fun u => [cO 2 h [.ref l0, .ref f0, .ref w0], cI M l0 32 (zU dl (s.toNat * 4 + e.toNat) t), cZ M f0 8 df, cZ M w0 8 dw]) := by
  refine kCI.of [(0, .ref h), (1, .int (zI s)), (2, .int (zI e)), (3, .int (zI t))] (by decide) (Nat.le_of_ble_eq_true rfl) rfl (fun E gg hret => ?_)
  refine z_iload_n (pc := 0) 1 gg dX2_lead_0 rfl rfl ?_
  refine z_callS (pc := 1) (As := [.int (zI s)]) (st := []) gg (c_D_isState M s (by first | assumption | omega | exact ⟨by omega, by omega⟩)) ys_2_isState ml_X2_22 dX2_lead_1 (by decide) (Nat.le_of_ble_eq_true rfl) (Nat.le_of_ble_eq_true rfl) (Nat.le_of_ble_eq_true rfl) rfl rfl (fun z1 u1 hz1 => ?_)
  refine z_if_eq (pc := 4) 21 gg dX2_lead_4 (by decide) ⟨by omega, by omega⟩ (fun h4 => ?_) (fun h4 => ?_)
  · exfalso; omega
  · refine z_iload_n (pc := 7) 2 gg dX2_lead_7 rfl rfl ?_
    refine z_callS (pc := 8) (As := [.int (zI e)]) (st := []) gg (c_D_isEvent M e (by first | assumption | omega | exact ⟨by omega, by omega⟩)) ys_2_isEvent ml_X2_26 dX2_lead_8 (by decide) (Nat.le_of_ble_eq_true rfl) (Nat.le_of_ble_eq_true rfl) (Nat.le_of_ble_eq_true rfl) rfl rfl (fun z8 u8 hz8 => ?_)
    refine z_if_eq (pc := 11) 21 gg dX2_lead_11 (by decide) ⟨by omega, by omega⟩ (fun h11 => ?_) (fun h11 => ?_)
    · exfalso; omega
    · refine z_iload_n (pc := 14) 3 gg dX2_lead_14 rfl rfl ?_
      refine z_callS (pc := 15) (As := [.int (zI t)]) (st := []) gg (c_D_isState M t (by first | assumption | omega | exact ⟨by omega, by omega⟩)) ys_2_isState ml_X2_22 dX2_lead_15 (by decide) (Nat.le_of_ble_eq_true rfl) (Nat.le_of_ble_eq_true rfl) (Nat.le_of_ble_eq_true rfl) rfl rfl (fun z15 u15 hz15 => ?_)
      refine z_if_ne (pc := 18) 23 gg dX2_lead_18 (by decide) ⟨by omega, by omega⟩ (fun h18 => ?_) (fun h18 => ?_)
      · refine z_aload_n (pc := 23) 0 gg dX2_lead_23 rfl rfl ?_
        refine z_get (pc := 24) 0 gg fl_X2_11 dX2_lead_24 rfl rfl ?_
        refine z_iload_n (pc := 27) 1 gg dX2_lead_27 rfl rfl ?_
        refine z_iconst (pc := 28) gg dX2_lead_28 ?_
        refine z_imul (pc := 29) gg dX2_lead_29 ?_
        refine z_iload_n (pc := 30) 2 gg dX2_lead_30 rfl rfl ?_
        refine z_iadd (pc := 31) gg dX2_lead_31 ?_
        refine z_iload_n (pc := 32) 3 gg dX2_lead_32 rfl rfl ?_
        refine z_iast (pc := 33) 1 ((s.toNat * 4) + e.toNat) [cO 2 h [.ref l0, .ref f0, .ref w0], cI M l0 32 (zU dl ((s.toNat * 4) + e.toNat) t), cZ M f0 8 df, cZ M w0 8 dw] gg dX2_lead_33 rfl (by omega) (by omega) (by decide) rfl ?_
        refine z_iconst (pc := 34) gg dX2_lead_34 ?_
        exact hret 1 () 35 _ _ _ (Nat.le_of_ble_eq_true rfl) (Nat.le_of_ble_eq_true rfl) dX2_lead_35 (zB01 (by omega)) (by omega)
      · exfalso; omega
set_option maxHeartbeats 4000000 in
set_option maxRecDepth 100000 in
theorem c_D_lead_no (M : KM) (h l0 f0 w0 : Nat) (dl df dw : Nat → Int) (s e t : Int) (hs : zR s) (he : zR e) (ht : zR t) (hc : s < 0 ∨ 8 ≤ s ∨ e < 0 ∨ 4 ≤ e ∨ t < 0 ∨ 8 ≤ t) : kCI M yX2_lead cX2_lead 4 .boolean 1 0 0 [cO 2 h [.ref l0, .ref f0, .ref w0], cI M l0 32 dl, cZ M f0 8 df, cZ M w0 8 dw] [.ref h, .int (zI s), .int (zI e), .int (zI t)] (fun z (u : Unit) => z = 0) (fun u => [cO 2 h [.ref l0, .ref f0, .ref w0], cI M l0 32 dl, cZ M f0 8 df, cZ M w0 8 dw]) := by
  refine kCI.of [(0, .ref h), (1, .int (zI s)), (2, .int (zI e)), (3, .int (zI t))] (by decide) (Nat.le_of_ble_eq_true rfl) rfl (fun E gg hret => ?_)
  have r1_hs := hs.1
  have r2_hs := hs.2
  have r1_he := he.1
  have r2_he := he.2
  have r1_ht := ht.1
  have r2_ht := ht.2
  refine z_iload_n (pc := 0) 1 gg dX2_lead_0 rfl rfl ?_
  refine z_callS (pc := 1) (As := [.int (zI s)]) (st := []) gg (c_D_isState M s (by first | assumption | omega | exact ⟨by omega, by omega⟩)) ys_2_isState ml_X2_22 dX2_lead_1 (by decide) (Nat.le_of_ble_eq_true rfl) (Nat.le_of_ble_eq_true rfl) (Nat.le_of_ble_eq_true rfl) rfl rfl (fun z1 u1 hz1 => ?_)
  refine z_if_eq (pc := 4) 21 gg dX2_lead_4 (by decide) ⟨by omega, by omega⟩ (fun h4 => ?_) (fun h4 => ?_)
  · refine z_iconst (pc := 21) gg dX2_lead_21 ?_
    exact hret 0 () 22 _ _ _ (Nat.le_of_ble_eq_true rfl) (Nat.le_of_ble_eq_true rfl) dX2_lead_22 (zB01 (by omega)) (by omega)
  · refine z_iload_n (pc := 7) 2 gg dX2_lead_7 rfl rfl ?_
    refine z_callS (pc := 8) (As := [.int (zI e)]) (st := []) gg (c_D_isEvent M e (by first | assumption | omega | exact ⟨by omega, by omega⟩)) ys_2_isEvent ml_X2_26 dX2_lead_8 (by decide) (Nat.le_of_ble_eq_true rfl) (Nat.le_of_ble_eq_true rfl) (Nat.le_of_ble_eq_true rfl) rfl rfl (fun z8 u8 hz8 => ?_)
    refine z_if_eq (pc := 11) 21 gg dX2_lead_11 (by decide) ⟨by omega, by omega⟩ (fun h11 => ?_) (fun h11 => ?_)
    · refine z_iconst (pc := 21) gg dX2_lead_21 ?_
      exact hret 0 () 22 _ _ _ (Nat.le_of_ble_eq_true rfl) (Nat.le_of_ble_eq_true rfl) dX2_lead_22 (zB01 (by omega)) (by omega)
    · refine z_iload_n (pc := 14) 3 gg dX2_lead_14 rfl rfl ?_
      refine z_callS (pc := 15) (As := [.int (zI t)]) (st := []) gg (c_D_isState M t (by first | assumption | omega | exact ⟨by omega, by omega⟩)) ys_2_isState ml_X2_22 dX2_lead_15 (by decide) (Nat.le_of_ble_eq_true rfl) (Nat.le_of_ble_eq_true rfl) (Nat.le_of_ble_eq_true rfl) rfl rfl (fun z15 u15 hz15 => ?_)
      refine z_if_ne (pc := 18) 23 gg dX2_lead_18 (by decide) ⟨by omega, by omega⟩ (fun h18 => ?_) (fun h18 => ?_)
      · exfalso; omega
      · refine z_iconst (pc := 21) gg dX2_lead_21 ?_
        exact hret 0 () 22 _ _ _ (Nat.le_of_ble_eq_true rfl) (Nat.le_of_ble_eq_true rfl) dX2_lead_22 (zB01 (by omega)) (by omega)
set_option maxHeartbeats 4000000 in
set_option maxRecDepth 100000 in
theorem c_D_equip_ok (M : KM) (h l0 f0 w0 : Nat) (dl df dw : Nat → Int) (s x y : Int) (hs : 0 ≤ s ∧ s < 8) (hx : x = 0 ∨ x = 1) (hy : y = 0 ∨ y = 1) : kCI M yX2_equip cX2_equip 4 .boolean 1 0 0 [cO 2 h [.ref l0, .ref f0, .ref w0], cI M l0 32 dl, cZ M f0 8 df, cZ M w0 8 dw] [.ref h, .int (zI s), .int (zI x), .int (zI y)] (fun z (u : Unit) => z = 1) (fun u => [cO 2 h [.ref l0, .ref f0, .ref w0], cI M l0 32 dl, cZ M f0 8 (zU df s.toNat x), cZ M w0 8 (zU dw s.toNat y)]) := by
  refine kCI.of [(0, .ref h), (1, .int (zI s)), (2, .int (zI x)), (3, .int (zI y))] (by decide) (Nat.le_of_ble_eq_true rfl) rfl (fun E gg hret => ?_)
  refine z_iload_n (pc := 0) 1 gg dX2_equip_0 rfl rfl ?_
  refine z_callS (pc := 1) (As := [.int (zI s)]) (st := []) gg (c_D_isState M s (by first | assumption | omega | exact ⟨by omega, by omega⟩)) ys_2_isState ml_X2_22 dX2_equip_1 (by decide) (Nat.le_of_ble_eq_true rfl) (Nat.le_of_ble_eq_true rfl) (Nat.le_of_ble_eq_true rfl) rfl rfl (fun z1 u1 hz1 => ?_)
  refine z_if_ne (pc := 4) 9 gg dX2_equip_4 (by decide) ⟨by omega, by omega⟩ (fun h4 => ?_) (fun h4 => ?_)
  · refine z_aload_n (pc := 9) 0 gg dX2_equip_9 rfl rfl ?_
    refine z_get (pc := 10) 0 gg fl_X2_15 dX2_equip_10 rfl rfl ?_
    refine z_iload_n (pc := 13) 1 gg dX2_equip_13 rfl rfl ?_
    refine z_iload_n (pc := 14) 2 gg dX2_equip_14 rfl rfl ?_
    refine z_zast (pc := 15) 2 s.toNat [cO 2 h [.ref l0, .ref f0, .ref w0], cI M l0 32 dl, cZ M f0 8 (zU df s.toNat x), cZ M w0 8 dw] gg dX2_equip_15 rfl (by omega) (by omega) (by decide) (by omega) rfl ?_
    refine z_aload_n (pc := 16) 0 gg dX2_equip_16 rfl rfl ?_
    refine z_get (pc := 17) 0 gg fl_X2_19 dX2_equip_17 rfl rfl ?_
    refine z_iload_n (pc := 20) 1 gg dX2_equip_20 rfl rfl ?_
    refine z_iload_n (pc := 21) 3 gg dX2_equip_21 rfl rfl ?_
    refine z_zast (pc := 22) 3 s.toNat [cO 2 h [.ref l0, .ref f0, .ref w0], cI M l0 32 dl, cZ M f0 8 (zU df s.toNat x), cZ M w0 8 (zU dw s.toNat y)] gg dX2_equip_22 rfl (by omega) (by omega) (by decide) (by omega) rfl ?_
    refine z_iconst (pc := 23) gg dX2_equip_23 ?_
    exact hret 1 () 24 _ _ _ (Nat.le_of_ble_eq_true rfl) (Nat.le_of_ble_eq_true rfl) dX2_equip_24 (zB01 (by omega)) (by omega)
  · exfalso; omega
set_option maxHeartbeats 4000000 in
set_option maxRecDepth 100000 in
theorem c_D_equip_no (M : KM) (h l0 f0 w0 : Nat) (dl df dw : Nat → Int) (s x y : Int) (hs : zR s) (hc : s < 0 ∨ 8 ≤ s) : kCI M yX2_equip cX2_equip 4 .boolean 1 0 0 [cO 2 h [.ref l0, .ref f0, .ref w0], cI M l0 32 dl, cZ M f0 8 df, cZ M w0 8 dw] [.ref h, .int (zI s), .int (zI x), .int (zI y)] (fun z (u : Unit) => z = 0) (fun u => [cO 2 h [.ref l0, .ref f0, .ref w0], cI M l0 32 dl, cZ M f0 8 df, cZ M w0 8 dw]) := by
  refine kCI.of [(0, .ref h), (1, .int (zI s)), (2, .int (zI x)), (3, .int (zI y))] (by decide) (Nat.le_of_ble_eq_true rfl) rfl (fun E gg hret => ?_)
  have r1_hs := hs.1
  have r2_hs := hs.2
  refine z_iload_n (pc := 0) 1 gg dX2_equip_0 rfl rfl ?_
  refine z_callS (pc := 1) (As := [.int (zI s)]) (st := []) gg (c_D_isState M s (by first | assumption | omega | exact ⟨by omega, by omega⟩)) ys_2_isState ml_X2_22 dX2_equip_1 (by decide) (Nat.le_of_ble_eq_true rfl) (Nat.le_of_ble_eq_true rfl) (Nat.le_of_ble_eq_true rfl) rfl rfl (fun z1 u1 hz1 => ?_)
  refine z_if_ne (pc := 4) 9 gg dX2_equip_4 (by decide) ⟨by omega, by omega⟩ (fun h4 => ?_) (fun h4 => ?_)
  · exfalso; omega
  · refine z_iconst (pc := 7) gg dX2_equip_7 ?_
    exact hret 0 () 8 _ _ _ (Nat.le_of_ble_eq_true rfl) (Nat.le_of_ble_eq_true rfl) dX2_equip_8 (zB01 (by omega)) (by omega)
set_option maxHeartbeats 4000000 in
set_option maxRecDepth 100000 in
theorem c_D_after (M : KM) (h l0 f0 w0 : Nat) (dl df dw : Nat → Int) (s e : Int) (hs : 0 ≤ s ∧ s < 8) (he : 0 ≤ e ∧ e < 4) : kCI M yX2_after cX2_after 3 .int 1 0 0 [cO 2 h [.ref l0, .ref f0, .ref w0], cI M l0 32 dl, cZ M f0 8 df, cZ M w0 8 dw] [.ref h, .int (zI s), .int (zI e)] (fun z (u : Unit) => z = dl (s.toNat * 4 + e.toNat)) (fun u => [cO 2 h [.ref l0, .ref f0, .ref w0], cI M l0 32 dl, cZ M f0 8 df, cZ M w0 8 dw]) := by
  refine kCI.of [(0, .ref h), (1, .int (zI s)), (2, .int (zI e))] (by decide) (Nat.le_of_ble_eq_true rfl) rfl (fun E gg hret => ?_)
  refine z_iload_n (pc := 0) 1 gg dX2_after_0 rfl rfl ?_
  refine z_callS (pc := 1) (As := [.int (zI s)]) (st := []) gg (c_D_isState M s (by first | assumption | omega | exact ⟨by omega, by omega⟩)) ys_2_isState ml_X2_22 dX2_after_1 (by decide) (Nat.le_of_ble_eq_true rfl) (Nat.le_of_ble_eq_true rfl) (Nat.le_of_ble_eq_true rfl) rfl rfl (fun z1 u1 hz1 => ?_)
  refine z_if_eq (pc := 4) 27 gg dX2_after_4 (by decide) ⟨by omega, by omega⟩ (fun h4 => ?_) (fun h4 => ?_)
  · exfalso; omega
  · refine z_iload_n (pc := 7) 2 gg dX2_after_7 rfl rfl ?_
    refine z_callS (pc := 8) (As := [.int (zI e)]) (st := []) gg (c_D_isEvent M e (by first | assumption | omega | exact ⟨by omega, by omega⟩)) ys_2_isEvent ml_X2_26 dX2_after_8 (by decide) (Nat.le_of_ble_eq_true rfl) (Nat.le_of_ble_eq_true rfl) (Nat.le_of_ble_eq_true rfl) rfl rfl (fun z8 u8 hz8 => ?_)
    refine z_if_eq (pc := 11) 27 gg dX2_after_11 (by decide) ⟨by omega, by omega⟩ (fun h11 => ?_) (fun h11 => ?_)
    · exfalso; omega
    · refine z_aload_n (pc := 14) 0 gg dX2_after_14 rfl rfl ?_
      refine z_get (pc := 15) 0 gg fl_X2_11 dX2_after_15 rfl rfl ?_
      refine z_iload_n (pc := 18) 1 gg dX2_after_18 rfl rfl ?_
      refine z_iconst (pc := 19) gg dX2_after_19 ?_
      refine z_imul (pc := 20) gg dX2_after_20 ?_
      refine z_iload_n (pc := 21) 2 gg dX2_after_21 rfl rfl ?_
      refine z_iadd (pc := 22) gg dX2_after_22 ?_
      refine z_iald (pc := 23) 1 ((s.toNat * 4) + e.toNat) gg dX2_after_23 rfl (by omega) (by omega) (by decide) ?_
      refine z_goto (pc := 24) 28 gg dX2_after_24 (by decide) ?_
      exact hret (dl ((s.toNat * 4) + e.toNat)) () 28 _ _ _ (Nat.le_of_ble_eq_true rfl) (Nat.le_of_ble_eq_true rfl) dX2_after_28 rfl rfl
set_option maxHeartbeats 4000000 in
set_option maxRecDepth 100000 in
theorem c_D_feeds (M : KM) (h l0 f0 w0 : Nat) (dl df dw : Nat → Int) (s : Int) (hs : 0 ≤ s ∧ s < 8) (hb : ∀ j, j < 8 → df j = 0 ∨ df j = 1) : kCI M yX2_feeds cX2_feeds 2 .boolean 1 0 0 [cO 2 h [.ref l0, .ref f0, .ref w0], cI M l0 32 dl, cZ M f0 8 df, cZ M w0 8 dw] [.ref h, .int (zI s)] (fun z (u : Unit) => z = df s.toNat) (fun u => [cO 2 h [.ref l0, .ref f0, .ref w0], cI M l0 32 dl, cZ M f0 8 df, cZ M w0 8 dw]) := by
  refine kCI.of [(0, .ref h), (1, .int (zI s))] (by decide) (Nat.le_of_ble_eq_true rfl) rfl (fun E gg hret => ?_)
  refine z_iload_n (pc := 0) 1 gg dX2_feeds_0 rfl rfl ?_
  refine z_callS (pc := 1) (As := [.int (zI s)]) (st := []) gg (c_D_isState M s (by first | assumption | omega | exact ⟨by omega, by omega⟩)) ys_2_isState ml_X2_22 dX2_feeds_1 (by decide) (Nat.le_of_ble_eq_true rfl) (Nat.le_of_ble_eq_true rfl) (Nat.le_of_ble_eq_true rfl) rfl rfl (fun z1 u1 hz1 => ?_)
  refine z_if_eq (pc := 4) 20 gg dX2_feeds_4 (by decide) ⟨by omega, by omega⟩ (fun h4 => ?_) (fun h4 => ?_)
  · exfalso; omega
  · refine z_aload_n (pc := 7) 0 gg dX2_feeds_7 rfl rfl ?_
    refine z_get (pc := 8) 0 gg fl_X2_15 dX2_feeds_8 rfl rfl ?_
    refine z_iload_n (pc := 11) 1 gg dX2_feeds_11 rfl rfl ?_
    refine z_zald (pc := 12) 2 s.toNat gg dX2_feeds_12 rfl (by omega) (by omega) (by decide) ?_
    have hf12 := hb s.toNat (by omega)
    refine z_if_eq (pc := 13) 20 gg dX2_feeds_13 (by decide) ⟨by omega, by omega⟩ (fun h13 => ?_) (fun h13 => ?_)
    · refine z_iconst (pc := 20) gg dX2_feeds_20 ?_
      exact hret 0 () 21 _ _ _ (Nat.le_of_ble_eq_true rfl) (Nat.le_of_ble_eq_true rfl) dX2_feeds_21 (zB01 (by omega)) (by omega)
    · refine z_iconst (pc := 16) gg dX2_feeds_16 ?_
      refine z_goto (pc := 17) 21 gg dX2_feeds_17 (by decide) ?_
      exact hret 1 () 21 _ _ _ (Nat.le_of_ble_eq_true rfl) (Nat.le_of_ble_eq_true rfl) dX2_feeds_21 (zB01 (by omega)) (by omega)
set_option maxHeartbeats 4000000 in
set_option maxRecDepth 100000 in
theorem c_D_waters (M : KM) (h l0 f0 w0 : Nat) (dl df dw : Nat → Int) (s : Int) (hs : 0 ≤ s ∧ s < 8) (hb : ∀ j, j < 8 → dw j = 0 ∨ dw j = 1) : kCI M yX2_waters cX2_waters 2 .boolean 1 0 0 [cO 2 h [.ref l0, .ref f0, .ref w0], cI M l0 32 dl, cZ M f0 8 df, cZ M w0 8 dw] [.ref h, .int (zI s)] (fun z (u : Unit) => z = dw s.toNat) (fun u => [cO 2 h [.ref l0, .ref f0, .ref w0], cI M l0 32 dl, cZ M f0 8 df, cZ M w0 8 dw]) := by
  refine kCI.of [(0, .ref h), (1, .int (zI s))] (by decide) (Nat.le_of_ble_eq_true rfl) rfl (fun E gg hret => ?_)
  refine z_iload_n (pc := 0) 1 gg dX2_waters_0 rfl rfl ?_
  refine z_callS (pc := 1) (As := [.int (zI s)]) (st := []) gg (c_D_isState M s (by first | assumption | omega | exact ⟨by omega, by omega⟩)) ys_2_isState ml_X2_22 dX2_waters_1 (by decide) (Nat.le_of_ble_eq_true rfl) (Nat.le_of_ble_eq_true rfl) (Nat.le_of_ble_eq_true rfl) rfl rfl (fun z1 u1 hz1 => ?_)
  refine z_if_eq (pc := 4) 20 gg dX2_waters_4 (by decide) ⟨by omega, by omega⟩ (fun h4 => ?_) (fun h4 => ?_)
  · exfalso; omega
  · refine z_aload_n (pc := 7) 0 gg dX2_waters_7 rfl rfl ?_
    refine z_get (pc := 8) 0 gg fl_X2_19 dX2_waters_8 rfl rfl ?_
    refine z_iload_n (pc := 11) 1 gg dX2_waters_11 rfl rfl ?_
    refine z_zald (pc := 12) 3 s.toNat gg dX2_waters_12 rfl (by omega) (by omega) (by decide) ?_
    have hf12 := hb s.toNat (by omega)
    refine z_if_eq (pc := 13) 20 gg dX2_waters_13 (by decide) ⟨by omega, by omega⟩ (fun h13 => ?_) (fun h13 => ?_)
    · refine z_iconst (pc := 20) gg dX2_waters_20 ?_
      exact hret 0 () 21 _ _ _ (Nat.le_of_ble_eq_true rfl) (Nat.le_of_ble_eq_true rfl) dX2_waters_21 (zB01 (by omega)) (by omega)
    · refine z_iconst (pc := 16) gg dX2_waters_16 ?_
      refine z_goto (pc := 17) 21 gg dX2_waters_17 (by decide) ?_
      exact hret 1 () 21 _ _ _ (Nat.le_of_ble_eq_true rfl) (Nat.le_of_ble_eq_true rfl) dX2_waters_21 (zB01 (by omega)) (by omega)
set_option maxHeartbeats 4000000 in
set_option maxRecDepth 100000 in
theorem c_D_copyFrom (M : KM) (h l0 f0 w0 : Nat) (dl df dw : Nat → Int) (h2 l2 f2 w2 : Nat) (dl2 df2 dw2 : Nat → Int) (hu : ∀ j, j < 8 → df2 j = 0 ∨ df2 j = 1) (hv : ∀ j, j < 8 → dw2 j = 0 ∨ dw2 j = 1) : kCV M yX2_copyFrom cX2_copyFrom 3 1 0 0 [cO 2 h [.ref l0, .ref f0, .ref w0], cI M l0 32 dl, cZ M f0 8 df, cZ M w0 8 dw, cO 2 h2 [.ref l2, .ref f2, .ref w2], cI M l2 32 dl2, cZ M f2 8 df2, cZ M w2 8 dw2] [.ref h, .ref h2] (fun u : Unit => True) (fun u => [cO 2 h [.ref l0, .ref f0, .ref w0], cI M l0 32 dl2, cZ M f0 8 df2, cZ M w0 8 dw2, cO 2 h2 [.ref l2, .ref f2, .ref w2], cI M l2 32 dl2, cZ M f2 8 df2, cZ M w2 8 dw2]) := by
  refine kCV.of [(0, .ref h), (1, .ref h2)] (by decide) (Nat.le_of_ble_eq_true rfl) rfl (fun E gg gn hret => ?_)
  refine z_aload_n (pc := 0) 1 gg dX2_copyFrom_0 rfl rfl ?_
  refine z_get (pc := 1) 4 gg fl_X2_11 dX2_copyFrom_1 rfl rfl ?_
  refine z_iconst (pc := 4) gg dX2_copyFrom_4 ?_
  refine z_aload_n (pc := 5) 0 gg dX2_copyFrom_5 rfl rfl ?_
  refine z_get (pc := 6) 0 gg fl_X2_11 dX2_copyFrom_6 rfl rfl ?_
  refine z_iconst (pc := 9) gg dX2_copyFrom_9 ?_
  refine z_bipush (pc := 10) gg dX2_copyFrom_10 (by decide +kernel) ?_
  refine z_copy (pc := 12) 5 1 [cO 2 h [.ref l0, .ref f0, .ref w0], cI M l0 32 dl2, cZ M f0 8 df, cZ M w0 8 dw, cO 2 h2 [.ref l2, .ref f2, .ref w2], cI M l2 32 dl2, cZ M f2 8 df2, cZ M w2 8 dw2] gg dX2_copyFrom_12 ml_X2_29 ac_1 ac_2 ac_3 (by decide) (Nat.le_of_ble_eq_true rfl) rfl rfl rfl (by decide) rfl ?_
  refine z_iconst (pc := 15) gg dX2_copyFrom_15 ?_
  refine z_istore_n (pc := 16) [(2, .int (zI 0)), (0, .ref h), (1, .ref h2)] gg dX2_copyFrom_16 rfl (Nat.le_of_ble_eq_true rfl) rfl ?_
  have loop17 : ∀ (k17 : Nat) (i : Int) (x1 x2 : Nat → Int), (0 ≤ i ∧ i ≤ 8) → (∀ j, j < i.toNat → x1 j = df2 j) → (∀ j, j < i.toNat → x2 j = dw2 j) → 8 - i.toNat < k17 → kV M E 3 0 0 [cO 2 h [.ref l0, .ref f0, .ref w0], cI M l0 32 dl2, cZ M f0 8 x1, cZ M w0 8 x2, cO 2 h2 [.ref l2, .ref f2, .ref w2], cI M l2 32 dl2, cZ M f2 8 df2, cZ M w2 8 dw2] [(2, .int (zI i)), (0, .ref h), (1, .ref h2)] 17 [] := by
    intro k17
    induction k17 with
    | zero => intro i x1 x2 hi k1 k2 hm17; exact absurd hm17 (Nat.not_lt_zero _)
    | succ k17 ih17 =>
      intro i x1 x2 hi k1 k2 hm17
      refine z_iload_n (pc := 17) 0 gg dX2_copyFrom_17 rfl rfl ?_
      refine z_bipush (pc := 18) gg dX2_copyFrom_18 (by decide +kernel) ?_
      refine z_icmp_ge (pc := 20) 53 gg dX2_copyFrom_20 (by decide) ⟨by omega, by omega⟩ ⟨by omega, by omega⟩ (fun h20 => ?_) (fun h20 => ?_)
      · refine z_funZ 2 df2 [cO 2 h [.ref l0, .ref f0, .ref w0], cI M l0 32 dl2, cZ M f0 8 df2, cZ M w0 8 x2, cO 2 h2 [.ref l2, .ref f2, .ref w2], cI M l2 32 dl2, cZ M f2 8 df2, cZ M w2 8 dw2] rfl (fun j hj => k1 j (by omega)) rfl ?_
        refine z_funZ 3 dw2 [cO 2 h [.ref l0, .ref f0, .ref w0], cI M l0 32 dl2, cZ M f0 8 df2, cZ M w0 8 dw2, cO 2 h2 [.ref l2, .ref f2, .ref w2], cI M l2 32 dl2, cZ M f2 8 df2, cZ M w2 8 dw2] rfl (fun j hj => k2 j (by omega)) rfl ?_
        exact hret () 53 _ _ _ (Nat.le_of_ble_eq_true rfl) (Nat.le_of_ble_eq_true rfl) dX2_copyFrom_53 trivial
      · refine z_aload_n (pc := 23) 1 gg dX2_copyFrom_23 rfl rfl ?_
        refine z_get (pc := 24) 0 gg fl_X2_15 dX2_copyFrom_24 rfl rfl ?_
        refine z_iload_n (pc := 27) 0 gg dX2_copyFrom_27 rfl rfl ?_
        refine z_aload_n (pc := 28) 2 gg dX2_copyFrom_28 rfl rfl ?_
        refine z_get (pc := 29) 4 gg fl_X2_15 dX2_copyFrom_29 rfl rfl ?_
        refine z_iload_n (pc := 32) 0 gg dX2_copyFrom_32 rfl rfl ?_
        refine z_zald (pc := 33) 6 i.toNat gg dX2_copyFrom_33 rfl (by omega) (by omega) (by decide) ?_
        have hf33 := hu i.toNat (by omega)
        refine z_zast (pc := 34) 2 i.toNat [cO 2 h [.ref l0, .ref f0, .ref w0], cI M l0 32 dl2, cZ M f0 8 (zU x1 i.toNat (df2 i.toNat)), cZ M w0 8 x2, cO 2 h2 [.ref l2, .ref f2, .ref w2], cI M l2 32 dl2, cZ M f2 8 df2, cZ M w2 8 dw2] gg dX2_copyFrom_34 rfl (by omega) (by omega) (by decide) (by omega) rfl ?_
        refine z_aload_n (pc := 35) 1 gg dX2_copyFrom_35 rfl rfl ?_
        refine z_get (pc := 36) 0 gg fl_X2_19 dX2_copyFrom_36 rfl rfl ?_
        refine z_iload_n (pc := 39) 0 gg dX2_copyFrom_39 rfl rfl ?_
        refine z_aload_n (pc := 40) 2 gg dX2_copyFrom_40 rfl rfl ?_
        refine z_get (pc := 41) 4 gg fl_X2_19 dX2_copyFrom_41 rfl rfl ?_
        refine z_iload_n (pc := 44) 0 gg dX2_copyFrom_44 rfl rfl ?_
        refine z_zald (pc := 45) 7 i.toNat gg dX2_copyFrom_45 rfl (by omega) (by omega) (by decide) ?_
        have hf45 := hv i.toNat (by omega)
        refine z_zast (pc := 46) 3 i.toNat [cO 2 h [.ref l0, .ref f0, .ref w0], cI M l0 32 dl2, cZ M f0 8 (zU x1 i.toNat (df2 i.toNat)), cZ M w0 8 (zU x2 i.toNat (dw2 i.toNat)), cO 2 h2 [.ref l2, .ref f2, .ref w2], cI M l2 32 dl2, cZ M f2 8 df2, cZ M w2 8 dw2] gg dX2_copyFrom_46 rfl (by omega) (by omega) (by decide) (by omega) rfl ?_
        refine z_iinc (pc := 47) 0 [(2, .int (zI (i + 1))), (0, .ref h), (1, .ref h2)] gg dX2_copyFrom_47 rfl (Nat.le_of_ble_eq_true rfl) rfl ?_
        refine z_goto (pc := 50) 17 gg dX2_copyFrom_50 (by decide) ?_
        exact ih17 (i + 1) (zU x1 i.toNat (df2 i.toNat)) (zU x2 i.toNat (dw2 i.toNat)) (by omega) (zU_ext (by omega) k1) (zU_ext (by omega) k2) (by omega)
  exact loop17 _ 0 df dw (by omega) (fun j hj => absurd hj (by omega)) (fun j hj => absurd hj (by omega)) (Nat.lt_succ_self _)
set_option maxHeartbeats 4000000 in
set_option maxRecDepth 100000 in
theorem c_D_init (M : KM) (h : Nat)  : kCV M yX2_init cX2_init 2 1 3 48 [cO 2 h [.null, .null, .null]] [.ref h] (fun u : Nat × Nat × Nat => True) (fun u => [cO 2 h [.ref u.1, .ref u.2.1, .ref u.2.2], cI M u.1 32 (fun j => ((j / 4 : Nat) : Int)), cZ M u.2.1 8 (fun _ => 0), cZ M u.2.2 8 (fun _ => 0)]) := by
  refine kCV.of [(0, .ref h)] (by decide) (Nat.le_of_ble_eq_true rfl) rfl (fun E gg gn hret => ?_)
  refine z_aload_n (pc := 0) 0 gg dX2_init_0 rfl rfl ?_
  refine z_obj (pc := 1) gg dX2_init_1 ml_X2_3 oi_1 oi_2 (by decide) (Nat.le_of_ble_eq_true rfl) ?_
  refine z_aload_n (pc := 4) 0 gg dX2_init_4 rfl rfl ?_
  refine z_bipush (pc := 5) gg dX2_init_5 (by decide +kernel) ?_
  refine z_newaI (pc := 7) gg dX2_init_7 ar_I rfl (by decide) (Nat.le_of_ble_eq_true rfl) (Nat.le_of_ble_eq_true rfl) (fun q1 => ?_)
  show kV M E 2 _ _ [cO 2 h [.null, .null, .null], cI M q1 32 (fun _ => 0)] _ _ _
  refine z_putF (pc := 9) 0 [cO 2 h [.ref q1, .null, .null], cI M q1 32 (fun _ => 0)] gg gn fp_X2_11 dX2_init_9 rfl rfl rfl (Nat.le_of_ble_eq_true rfl) rfl ?_
  refine z_aload_n (pc := 12) 0 gg dX2_init_12 rfl rfl ?_
  refine z_bipush (pc := 13) gg dX2_init_13 (by decide +kernel) ?_
  refine z_newaZ (pc := 15) gg dX2_init_15 ar_Z rfl (by decide) (Nat.le_of_ble_eq_true rfl) (Nat.le_of_ble_eq_true rfl) (fun q2 => ?_)
  show kV M E 2 _ _ [cO 2 h [.ref q1, .null, .null], cI M q1 32 (fun _ => 0), cZ M q2 8 (fun _ => 0)] _ _ _
  refine z_putF (pc := 17) 0 [cO 2 h [.ref q1, .ref q2, .null], cI M q1 32 (fun _ => 0), cZ M q2 8 (fun _ => 0)] gg gn fp_X2_15 dX2_init_17 rfl rfl rfl (Nat.le_of_ble_eq_true rfl) rfl ?_
  refine z_aload_n (pc := 20) 0 gg dX2_init_20 rfl rfl ?_
  refine z_bipush (pc := 21) gg dX2_init_21 (by decide +kernel) ?_
  refine z_newaZ (pc := 23) gg dX2_init_23 ar_Z rfl (by decide) (Nat.le_of_ble_eq_true rfl) (Nat.le_of_ble_eq_true rfl) (fun q3 => ?_)
  show kV M E 2 _ _ [cO 2 h [.ref q1, .ref q2, .null], cI M q1 32 (fun _ => 0), cZ M q2 8 (fun _ => 0), cZ M q3 8 (fun _ => 0)] _ _ _
  refine z_putF (pc := 25) 0 [cO 2 h [.ref q1, .ref q2, .ref q3], cI M q1 32 (fun _ => 0), cZ M q2 8 (fun _ => 0), cZ M q3 8 (fun _ => 0)] gg gn fp_X2_19 dX2_init_25 rfl rfl rfl (Nat.le_of_ble_eq_true rfl) rfl ?_
  refine z_iconst (pc := 28) gg dX2_init_28 ?_
  refine z_istore_n (pc := 29) [(1, .int (zI 0)), (0, .ref h)] gg dX2_init_29 rfl (Nat.le_of_ble_eq_true rfl) rfl ?_
  have loop30 : ∀ (k30 : Nat) (i : Int) (x : Nat → Int), (0 ≤ i ∧ i ≤ 32) → (∀ j, j < i.toNat → x j = ((j / 4 : Nat) : Int)) → 32 - i.toNat < k30 → kV M E 2 3 48 [cO 2 h [.ref q1, .ref q2, .ref q3], cI M q1 32 x, cZ M q2 8 (fun _ => 0), cZ M q3 8 (fun _ => 0)] [(1, .int (zI i)), (0, .ref h)] 30 [] := by
    intro k30
    induction k30 with
    | zero => intro i x hi k1 hm30; exact absurd hm30 (Nat.not_lt_zero _)
    | succ k30 ih30 =>
      intro i x hi k1 hm30
      refine z_iload_n (pc := 30) 0 gg dX2_init_30 rfl rfl ?_
      refine z_bipush (pc := 31) gg dX2_init_31 (by decide +kernel) ?_
      refine z_icmp_ge (pc := 33) 51 gg dX2_init_33 (by decide) ⟨by omega, by omega⟩ ⟨by omega, by omega⟩ (fun h33 => ?_) (fun h33 => ?_)
      · refine z_fun 1 (fun j => ((j / 4 : Nat) : Int)) [cO 2 h [.ref q1, .ref q2, .ref q3], cI M q1 32 (fun j => ((j / 4 : Nat) : Int)), cZ M q2 8 (fun _ => 0), cZ M q3 8 (fun _ => 0)] rfl (fun j hj => k1 j (by omega)) rfl ?_
        exact hret (q1, q2, q3) 51 _ _ _ (Nat.le_of_ble_eq_true rfl) (Nat.le_of_ble_eq_true rfl) dX2_init_51 trivial
      · refine z_aload_n (pc := 36) 1 gg dX2_init_36 rfl rfl ?_
        refine z_get (pc := 37) 0 gg fl_X2_11 dX2_init_37 rfl rfl ?_
        refine z_iload_n (pc := 40) 0 gg dX2_init_40 rfl rfl ?_
        refine z_iload_n (pc := 41) 0 gg dX2_init_41 rfl rfl ?_
        refine z_iconst (pc := 42) gg dX2_init_42 ?_
        refine z_idivn (pc := 43) gg dX2_init_43 (by omega) (by omega) (by omega) (by omega) ?_
        refine z_iast (pc := 44) 1 i.toNat [cO 2 h [.ref q1, .ref q2, .ref q3], cI M q1 32 (zU x i.toNat (i / 4)), cZ M q2 8 (fun _ => 0), cZ M q3 8 (fun _ => 0)] gg dX2_init_44 rfl (by omega) (by omega) (by decide) rfl ?_
        refine z_iinc (pc := 45) 0 [(1, .int (zI (i + 1))), (0, .ref h)] gg dX2_init_45 rfl (Nat.le_of_ble_eq_true rfl) rfl ?_
        refine z_goto (pc := 48) 30 gg dX2_init_48 (by decide) ?_
        exact ih30 (i + 1) (zU x i.toNat (i / 4)) (by omega) (zU_eq (g := fun j => ((j / 4 : Nat) : Int)) (by omega) k1 (by omega)) (by omega)
  exact loop30 _ 0 (fun _ => 0) (by omega) (fun j hj => absurd hj (by omega)) (Nat.lt_succ_self _)
set_option maxHeartbeats 4000000 in
set_option maxRecDepth 100000 in
theorem c_H_init (M : KM) (h : Nat)  : kCV M yX3_init cX3_init 1 1 3 31 [cO 3 h [.null, .null, .null]] [.ref h] (fun u : Nat × Nat × Nat => True) (fun u => [cO 3 h [.ref u.1, .ref u.2.1, .ref u.2.2], cI M u.1 11 (fun _ => 0), cI M u.2.1 11 (fun _ => 0), cI M u.2.2 9 (fun _ => 0)]) := by
  refine kCV.of [(0, .ref h)] (by decide) (Nat.le_of_ble_eq_true rfl) rfl (fun E gg gn hret => ?_)
  refine z_aload_n (pc := 0) 0 gg dX3_init_0 rfl rfl ?_
  refine z_obj (pc := 1) gg dX3_init_1 ml_X3_3 oi_1 oi_2 (by decide) (Nat.le_of_ble_eq_true rfl) ?_
  refine z_aload_n (pc := 4) 0 gg dX3_init_4 rfl rfl ?_
  refine z_bipush (pc := 5) gg dX3_init_5 (by decide +kernel) ?_
  refine z_newaI (pc := 7) gg dX3_init_7 ar_I rfl (by decide) (Nat.le_of_ble_eq_true rfl) (Nat.le_of_ble_eq_true rfl) (fun q1 => ?_)
  show kV M E 1 _ _ [cO 3 h [.null, .null, .null], cI M q1 11 (fun _ => 0)] _ _ _
  refine z_putF (pc := 9) 0 [cO 3 h [.ref q1, .null, .null], cI M q1 11 (fun _ => 0)] gg gn fp_X3_11 dX3_init_9 rfl rfl rfl (Nat.le_of_ble_eq_true rfl) rfl ?_
  refine z_aload_n (pc := 12) 0 gg dX3_init_12 rfl rfl ?_
  refine z_bipush (pc := 13) gg dX3_init_13 (by decide +kernel) ?_
  refine z_newaI (pc := 15) gg dX3_init_15 ar_I rfl (by decide) (Nat.le_of_ble_eq_true rfl) (Nat.le_of_ble_eq_true rfl) (fun q2 => ?_)
  show kV M E 1 _ _ [cO 3 h [.ref q1, .null, .null], cI M q1 11 (fun _ => 0), cI M q2 11 (fun _ => 0)] _ _ _
  refine z_putF (pc := 17) 0 [cO 3 h [.ref q1, .ref q2, .null], cI M q1 11 (fun _ => 0), cI M q2 11 (fun _ => 0)] gg gn fp_X3_15 dX3_init_17 rfl rfl rfl (Nat.le_of_ble_eq_true rfl) rfl ?_
  refine z_aload_n (pc := 20) 0 gg dX3_init_20 rfl rfl ?_
  refine z_bipush (pc := 21) gg dX3_init_21 (by decide +kernel) ?_
  refine z_newaI (pc := 23) gg dX3_init_23 ar_I rfl (by decide) (Nat.le_of_ble_eq_true rfl) (Nat.le_of_ble_eq_true rfl) (fun q3 => ?_)
  show kV M E 1 _ _ [cO 3 h [.ref q1, .ref q2, .null], cI M q1 11 (fun _ => 0), cI M q2 11 (fun _ => 0), cI M q3 9 (fun _ => 0)] _ _ _
  refine z_putF (pc := 25) 0 [cO 3 h [.ref q1, .ref q2, .ref q3], cI M q1 11 (fun _ => 0), cI M q2 11 (fun _ => 0), cI M q3 9 (fun _ => 0)] gg gn fp_X3_18 dX3_init_25 rfl rfl rfl (Nat.le_of_ble_eq_true rfl) rfl ?_
  exact hret (q1, q2, q3) 28 _ _ _ (Nat.le_of_ble_eq_true rfl) (Nat.le_of_ble_eq_true rfl) dX3_init_28 trivial
set_option maxHeartbeats 4000000 in
set_option maxRecDepth 100000 in
theorem c_H_begin (M : KM) (h a b c : Nat) (p : Int) (f bf cu : Nat → Int)  : kCV M yX3_begin cX3_begin 3 0 0 0 [cO 3 h [.ref a, .ref b, .ref c], cI M a 11 f, cI M b 11 bf, cI M c 9 cu] [.ref h, .int (zI p)] (fun u : Unit => True) (fun u => [cO 3 h [.ref a, .ref b, .ref c], cI M a 11 (hx (100 * p) (sH (100 * p) 0)), cI M b 11 bf, cI M c 9 (sC (100 * p) 0)]) := by
  refine kCV.of [(0, .ref h), (1, .int (zI p))] (by decide) (Nat.le_of_ble_eq_true rfl) rfl (fun E gg gn hret => ?_)
  refine z_aload_n (pc := 0) 0 gg dX3_begin_0 rfl rfl ?_
  refine z_get (pc := 1) 0 gg fl_X3_11 dX3_begin_1 rfl rfl ?_
  refine z_iconst (pc := 4) gg dX3_begin_4 ?_
  refine z_bipush (pc := 5) gg dX3_begin_5 (by decide +kernel) ?_
  refine z_iload_n (pc := 7) 1 gg dX3_begin_7 rfl rfl ?_
  refine z_imul (pc := 8) gg dX3_begin_8 ?_
  refine z_iast (pc := 9) 1 0 [cO 3 h [.ref a, .ref b, .ref c], cI M a 11 (zU f 0 (100 * p)), cI M b 11 bf, cI M c 9 cu] gg dX3_begin_9 rfl (by omega) (by omega) (by decide) rfl ?_
  refine z_aload_n (pc := 10) 0 gg dX3_begin_10 rfl rfl ?_
  refine z_get (pc := 11) 0 gg fl_X3_11 dX3_begin_11 rfl rfl ?_
  refine z_bipush (pc := 14) gg dX3_begin_14 (by decide +kernel) ?_
  refine z_bipush (pc := 16) gg dX3_begin_16 (by decide +kernel) ?_
  refine z_iload_n (pc := 18) 1 gg dX3_begin_18 rfl rfl ?_
  refine z_imul (pc := 19) gg dX3_begin_19 ?_
  refine z_iast (pc := 20) 1 10 [cO 3 h [.ref a, .ref b, .ref c], cI M a 11 (zU (zU f 0 (100 * p)) 10 (100 * p)), cI M b 11 bf, cI M c 9 cu] gg dX3_begin_20 rfl (by omega) (by omega) (by decide) rfl ?_
  refine z_iconst (pc := 21) gg dX3_begin_21 ?_
  refine z_istore_n (pc := 22) [(2, .int (zI 0)), (0, .ref h), (1, .int (zI p))] gg dX3_begin_22 rfl (Nat.le_of_ble_eq_true rfl) rfl ?_
  have loop23 : ∀ (k23 : Nat) (i : Int) (x y : Nat → Int), (0 ≤ i ∧ i ≤ 9) → (x 0 = 100 * p ∧ x 10 = 100 * p) → (∀ j, j < i.toNat → x (j + 1) = 2000) → (∀ j, j < i.toNat → y j = 0) → 9 - i.toNat < k23 → kV M E 3 0 0 [cO 3 h [.ref a, .ref b, .ref c], cI M a 11 x, cI M b 11 bf, cI M c 9 y] [(2, .int (zI i)), (0, .ref h), (1, .int (zI p))] 23 [] := by
    intro k23
    induction k23 with
    | zero => intro i x y hi k0 k1 k2 hm23; exact absurd hm23 (Nat.not_lt_zero _)
    | succ k23 ih23 =>
      intro i x y hi k0 k1 k2 hm23
      refine z_iload_n (pc := 23) 0 gg dX3_begin_23 rfl rfl ?_
      refine z_bipush (pc := 24) gg dX3_begin_24 (by decide +kernel) ?_
      refine z_icmp_ge (pc := 26) 53 gg dX3_begin_26 (by decide) ⟨by omega, by omega⟩ ⟨by omega, by omega⟩ (fun h26 => ?_) (fun h26 => ?_)
      · refine z_fun 1 (hx (100 * p) (sH (100 * p) 0)) [cO 3 h [.ref a, .ref b, .ref c], cI M a 11 (hx (100 * p) (sH (100 * p) 0)), cI M b 11 bf, cI M c 9 y] rfl (fun j hj => ?_) rfl ?_
        · unfold hx
          by_cases e : 1 ≤ j ∧ j ≤ 9
          · rw [if_pos e]
            have := k1 (j - 1) (by omega)
            rw [show j - 1 + 1 = j by omega] at this
            exact this
          · rw [if_neg e]
            rcases (show j = 0 ∨ j = 10 by omega) with rfl | rfl
            · exact k0.1
            · exact k0.2
        refine z_fun 3 (sC (100 * p) 0) [cO 3 h [.ref a, .ref b, .ref c], cI M a 11 (hx (100 * p) (sH (100 * p) 0)), cI M b 11 bf, cI M c 9 (sC (100 * p) 0)] rfl (fun j hj => k2 j (by omega)) rfl ?_
        exact hret () 53 _ _ _ (Nat.le_of_ble_eq_true rfl) (Nat.le_of_ble_eq_true rfl) dX3_begin_53 trivial
      · refine z_aload_n (pc := 29) 1 gg dX3_begin_29 rfl rfl ?_
        refine z_get (pc := 30) 0 gg fl_X3_11 dX3_begin_30 rfl rfl ?_
        refine z_iload_n (pc := 33) 0 gg dX3_begin_33 rfl rfl ?_
        refine z_iconst (pc := 34) gg dX3_begin_34 ?_
        refine z_iadd (pc := 35) gg dX3_begin_35 ?_
        refine z_sipush (pc := 36) gg dX3_begin_36 (by decide +kernel) ?_
        refine z_iast (pc := 39) 1 (i.toNat + 1) [cO 3 h [.ref a, .ref b, .ref c], cI M a 11 (zU x (i.toNat + 1) 2000), cI M b 11 bf, cI M c 9 y] gg dX3_begin_39 rfl (by omega) (by omega) (by decide) rfl ?_
        refine z_aload_n (pc := 40) 1 gg dX3_begin_40 rfl rfl ?_
        refine z_get (pc := 41) 0 gg fl_X3_18 dX3_begin_41 rfl rfl ?_
        refine z_iload_n (pc := 44) 0 gg dX3_begin_44 rfl rfl ?_
        refine z_iconst (pc := 45) gg dX3_begin_45 ?_
        refine z_iast (pc := 46) 3 i.toNat [cO 3 h [.ref a, .ref b, .ref c], cI M a 11 (zU x (i.toNat + 1) 2000), cI M b 11 bf, cI M c 9 (zU y i.toNat 0)] gg dX3_begin_46 rfl (by omega) (by omega) (by decide) rfl ?_
        refine z_iinc (pc := 47) 0 [(2, .int (zI (i + 1))), (0, .ref h), (1, .int (zI p))] gg dX3_begin_47 rfl (Nat.le_of_ble_eq_true rfl) rfl ?_
        refine z_goto (pc := 50) 23 gg dX3_begin_50 (by decide) ?_
        exact ih23 (i + 1) (zU x (i.toNat + 1) 2000) (zU y i.toNat 0) (by omega) ⟨by rw [zU_n _ _ (by omega)]; exact k0.1, by rw [zU_n _ _ (by omega)]; exact k0.2⟩ (fun j hj => by
        by_cases e : j = i.toNat
        · rw [e]; exact zU_s _ _ _
        · rw [zU_n _ _ (by omega)]; exact k1 j (by omega)) (zU_eq (g := fun _ => 0) (by omega) k2 rfl) (by omega)
  exact loop23 _ 0 (zU (zU f 0 (100 * p)) 10 (100 * p)) cu (by omega) ⟨rfl, rfl⟩ (fun j hj => absurd hj (by omega)) (fun j hj => absurd hj (by omega)) (Nat.lt_succ_self _)
set_option maxHeartbeats 4000000 in
set_option maxRecDepth 100000 in
theorem c_H_tick (M : KM) (h a b c : Nat) (T : Int) (f bf cu : Nat → Int) (hB : ∀ j, j < 11 → 0 ≤ hx T f j ∧ hx T f j ≤ 25000) : kCV M yX3_tick cX3_tick 4 1 0 0 [cO 3 h [.ref a, .ref b, .ref c], cI M a 11 (hx T f), cI M b 11 bf, cI M c 9 cu] [.ref h] (fun u : Unit => True) (fun u => [cO 3 h [.ref a, .ref b, .ref c], cI M a 11 (hx T (tkH T f)), cI M b 11 (hx T f), cI M c 9 (fun s => cu s + tkC (tkH T f s))]) := by
  refine kCV.of [(0, .ref h)] (by decide) (Nat.le_of_ble_eq_true rfl) rfl (fun E gg gn hret => ?_)
  refine z_aload_n (pc := 0) 0 gg dX3_tick_0 rfl rfl ?_
  refine z_get (pc := 1) 0 gg fl_X3_11 dX3_tick_1 rfl rfl ?_
  refine z_iconst (pc := 4) gg dX3_tick_4 ?_
  refine z_aload_n (pc := 5) 0 gg dX3_tick_5 rfl rfl ?_
  refine z_get (pc := 6) 0 gg fl_X3_15 dX3_tick_6 rfl rfl ?_
  refine z_iconst (pc := 9) gg dX3_tick_9 ?_
  refine z_bipush (pc := 10) gg dX3_tick_10 (by decide +kernel) ?_
  refine z_copy (pc := 12) 1 2 [cO 3 h [.ref a, .ref b, .ref c], cI M a 11 (hx T f), cI M b 11 (hx T f), cI M c 9 cu] gg dX3_tick_12 ml_X3_21 ac_1 ac_2 ac_3 (by decide) (Nat.le_of_ble_eq_true rfl) rfl rfl rfl (by decide) rfl ?_
  refine z_iconst (pc := 15) gg dX3_tick_15 ?_
  refine z_istore_n (pc := 16) [(1, .int (zI 0)), (0, .ref h)] gg dX3_tick_16 rfl (Nat.le_of_ble_eq_true rfl) rfl ?_
  have loop17 : ∀ (k17 : Nat) (i : Int) (x y : Nat → Int), (0 ≤ i ∧ i ≤ 9) → (x = hm T f i.toNat) → (∀ j, j < i.toNat → y j = cu j + tkC (tkH T f j)) → (∀ j, i.toNat ≤ j → y j = cu j) → 9 - i.toNat < k17 → kV M E 4 0 0 [cO 3 h [.ref a, .ref b, .ref c], cI M a 11 x, cI M b 11 (hx T f), cI M c 9 y] [(1, .int (zI i)), (0, .ref h)] 17 [] := by
    intro k17
    induction k17 with
    | zero => intro i x y hi k1 k2 k3 hm17; exact absurd hm17 (Nat.not_lt_zero _)
    | succ k17 ih17 =>
      intro i x y hi k1 k2 k3 hm17
      refine z_iload_n (pc := 17) 0 gg dX3_tick_17 rfl rfl ?_
      refine z_bipush (pc := 18) gg dX3_tick_18 (by decide +kernel) ?_
      refine z_icmp_ge (pc := 20) 96 gg dX3_tick_20 (by decide) ⟨by omega, by omega⟩ ⟨by omega, by omega⟩ (fun h20 => ?_) (fun h20 => ?_)
      · have e9 : i.toNat = 9 := by omega
        rw [e9, hm_9] at k1
        subst k1
        refine z_fun 3 (fun s => cu s + tkC (tkH T f s)) [cO 3 h [.ref a, .ref b, .ref c], cI M a 11 (hx T (tkH T f)), cI M b 11 (hx T f), cI M c 9 (fun s => cu s + tkC (tkH T f s))] rfl (fun j hj => k2 j (by omega)) rfl ?_
        exact hret () 96 _ _ _ (Nat.le_of_ble_eq_true rfl) (Nat.le_of_ble_eq_true rfl) dX3_tick_96 trivial
      · refine z_aload_n (pc := 23) 1 gg dX3_tick_23 rfl rfl ?_
        refine z_get (pc := 24) 0 gg fl_X3_15 dX3_tick_24 rfl rfl ?_
        refine z_iload_n (pc := 27) 0 gg dX3_tick_27 rfl rfl ?_
        refine z_iconst (pc := 28) gg dX3_tick_28 ?_
        refine z_iadd (pc := 29) gg dX3_tick_29 ?_
        refine z_iald (pc := 30) 2 (i.toNat + 1) gg dX3_tick_30 rfl (by omega) (by omega) (by decide) ?_
        have hf30 := hB (i.toNat + 1) (by omega)
        refine z_istore_n (pc := 31) [(2, .int (zI ((hx T f) (i.toNat + 1)))), (1, .int (zI i)), (0, .ref h)] gg dX3_tick_31 rfl (Nat.le_of_ble_eq_true rfl) rfl ?_
        refine z_iload_n (pc := 32) 0 gg dX3_tick_32 rfl rfl ?_
        refine z_aload_n (pc := 33) 2 gg dX3_tick_33 rfl rfl ?_
        refine z_get (pc := 34) 0 gg fl_X3_15 dX3_tick_34 rfl rfl ?_
        refine z_iload_n (pc := 37) 1 gg dX3_tick_37 rfl rfl ?_
        refine z_iald (pc := 38) 2 i.toNat gg dX3_tick_38 rfl (by omega) (by omega) (by decide) ?_
        have hf38 := hB i.toNat (by omega)
        refine z_aload_n (pc := 39) 2 gg dX3_tick_39 rfl rfl ?_
        refine z_get (pc := 40) 0 gg fl_X3_15 dX3_tick_40 rfl rfl ?_
        refine z_iload_n (pc := 43) 1 gg dX3_tick_43 rfl rfl ?_
        refine z_iconst (pc := 44) gg dX3_tick_44 ?_
        refine z_iadd (pc := 45) gg dX3_tick_45 ?_
        refine z_iald (pc := 46) 2 (i.toNat + 2) gg dX3_tick_46 rfl (by omega) (by omega) (by decide) ?_
        have hf46 := hB (i.toNat + 2) (by omega)
        refine z_iadd (pc := 47) gg dX3_tick_47 ?_
        refine z_iconst (pc := 48) gg dX3_tick_48 ?_
        refine z_iload_n (pc := 49) 0 gg dX3_tick_49 rfl rfl ?_
        refine z_imul (pc := 50) gg dX3_tick_50 ?_
        refine z_isub (pc := 51) gg dX3_tick_51 ?_
        refine z_bipush (pc := 52) gg dX3_tick_52 (by decide +kernel) ?_
        refine z_idiv (pc := 54) gg dX3_tick_54 ⟨by omega, by omega⟩ ⟨by omega, by omega⟩ (by omega) ?_
        refine z_iadd (pc := 55) gg dX3_tick_55 ?_
        refine z_top (fun nx h_nx => ?_)
        have h_nx : nx = tkH T f i.toNat := h_nx
        have nb := tkH_b hB (s := i.toNat) (by omega)
        rw [← h_nx] at nb
        refine z_istore_n (pc := 56) [(3, .int (zI nx)), (2, .int (zI ((hx T f) (i.toNat + 1)))), (1, .int (zI i)), (0, .ref h)] gg dX3_tick_56 rfl (Nat.le_of_ble_eq_true rfl) rfl ?_
        refine z_aload_n (pc := 57) 3 gg dX3_tick_57 rfl rfl ?_
        refine z_get (pc := 58) 0 gg fl_X3_11 dX3_tick_58 rfl rfl ?_
        refine z_iload_n (pc := 61) 2 gg dX3_tick_61 rfl rfl ?_
        refine z_iconst (pc := 62) gg dX3_tick_62 ?_
        refine z_iadd (pc := 63) gg dX3_tick_63 ?_
        refine z_iload_n (pc := 64) 0 gg dX3_tick_64 rfl rfl ?_
        refine z_iast (pc := 65) 1 (i.toNat + 1) [cO 3 h [.ref a, .ref b, .ref c], cI M a 11 (zU x (i.toNat + 1) nx), cI M b 11 (hx T f), cI M c 9 y] gg dX3_tick_65 rfl (by omega) (by omega) (by decide) rfl ?_
        refine z_iload_n (pc := 66) 0 gg dX3_tick_66 rfl rfl ?_
        refine z_sipush (pc := 67) gg dX3_tick_67 (by decide +kernel) ?_
        refine z_icmp_le (pc := 70) 90 gg dX3_tick_70 (by decide) ⟨by omega, by omega⟩ ⟨by omega, by omega⟩ (fun h70 => ?_) (fun h70 => ?_)
        · refine z_iinc (pc := 90) 2 [(1, .int (zI (i + 1))), (3, .int (zI nx)), (2, .int (zI ((hx T f) (i.toNat + 1)))), (0, .ref h)] gg dX3_tick_90 rfl (Nat.le_of_ble_eq_true rfl) rfl ?_
          refine z_goto (pc := 93) 17 gg dX3_tick_93 (by decide) ?_
          refine z_lv [(1, .int (zI (i + 1))), (0, .ref h)] [0, 3] rfl ?_
          exact ih17 (i + 1) (zU x (i.toNat + 1) nx) y (by omega) (by rw [hm_step (by omega), k1, h_nx]) (fun j hj => by
        by_cases e : j = i.toNat
        · rw [e, k3 _ (Nat.le_refl _)]; unfold tkC; rw [if_neg (by rw [← h_nx]; omega)]; omega
        · exact k2 j (by omega)) (fun j hj => k3 j (by omega)) (by omega)
        · refine z_aload_n (pc := 73) 3 gg dX3_tick_73 rfl rfl ?_
          refine z_get (pc := 74) 0 gg fl_X3_18 dX3_tick_74 rfl rfl ?_
          refine z_iload_n (pc := 77) 2 gg dX3_tick_77 rfl rfl ?_
          refine z_dup2 (pc := 78) gg dX3_tick_78 rfl rfl ?_
          refine z_iald (pc := 79) 3 i.toNat gg dX3_tick_79 rfl (by omega) (by omega) (by decide) ?_
          refine z_iload_n (pc := 80) 0 gg dX3_tick_80 rfl rfl ?_
          refine z_sipush (pc := 81) gg dX3_tick_81 (by decide +kernel) ?_
          refine z_isub (pc := 84) gg dX3_tick_84 ?_
          refine z_bipush (pc := 85) gg dX3_tick_85 (by decide +kernel) ?_
          refine z_idivn (pc := 87) gg dX3_tick_87 (by omega) (by omega) (by omega) (by omega) ?_
          refine z_iadd (pc := 88) gg dX3_tick_88 ?_
          refine z_iast (pc := 89) 3 i.toNat [cO 3 h [.ref a, .ref b, .ref c], cI M a 11 (zU x (i.toNat + 1) nx), cI M b 11 (hx T f), cI M c 9 (zU y i.toNat ((y i.toNat) + ((nx - 8000) / 100)))] gg dX3_tick_89 rfl (by omega) (by omega) (by decide) rfl ?_
          refine z_iinc (pc := 90) 2 [(1, .int (zI (i + 1))), (3, .int (zI nx)), (2, .int (zI ((hx T f) (i.toNat + 1)))), (0, .ref h)] gg dX3_tick_90 rfl (Nat.le_of_ble_eq_true rfl) rfl ?_
          refine z_goto (pc := 93) 17 gg dX3_tick_93 (by decide) ?_
          refine z_lv [(1, .int (zI (i + 1))), (0, .ref h)] [0, 3] rfl ?_
          exact ih17 (i + 1) (zU x (i.toNat + 1) nx) (zU y i.toNat ((y i.toNat) + ((nx - 8000) / 100))) (by omega) (by rw [hm_step (by omega), k1, h_nx]) (fun j hj => by
        by_cases e : j = i.toNat
        · rw [e, zU_s, k3 _ (Nat.le_refl _)]; unfold tkC; rw [if_pos (by rw [← h_nx]; omega), ← h_nx]
        · rw [zU_n _ _ e]; exact k2 j (by omega)) (fun j hj => by rw [zU_n _ _ (by omega)]; exact k3 j (by omega)) (by omega)
  exact loop17 _ 0 (hx T f) cu (by omega) (hm_0 T f).symm (fun j hj => absurd hj (by omega)) (fun j _ => rfl) (Nat.lt_succ_self _)
set_option maxHeartbeats 4000000 in
set_option maxRecDepth 100000 in
theorem c_H_heatOf (M : KM) (h a b c : Nat) (T : Int) (f bf cu : Nat → Int) (s : Int) (hs : zR s) : kCI M yX3_heatOf cX3_heatOf 2 .int 0 0 0 [cO 3 h [.ref a, .ref b, .ref c], cI M a 11 (hx T f), cI M b 11 bf, cI M c 9 cu] [.ref h, .int (zI s)] (fun z (u : Unit) => (0 ≤ s ∧ s < 9 ∧ z = f s.toNat) ∨ ((s < 0 ∨ 9 ≤ s) ∧ z = -1)) (fun u => [cO 3 h [.ref a, .ref b, .ref c], cI M a 11 (hx T f), cI M b 11 bf, cI M c 9 cu]) := by
  refine kCI.of [(0, .ref h), (1, .int (zI s))] (by decide) (Nat.le_of_ble_eq_true rfl) rfl (fun E gg hret => ?_)
  have r1_hs := hs.1
  have r2_hs := hs.2
  refine z_iload_n (pc := 0) 1 gg dX3_heatOf_0 rfl rfl ?_
  refine z_if_lt (pc := 1) 21 gg dX3_heatOf_1 (by decide) ⟨by omega, by omega⟩ (fun h1 => ?_) (fun h1 => ?_)
  · refine z_iconst (pc := 21) gg dX3_heatOf_21 ?_
    exact hret (-1) () 22 _ _ _ (Nat.le_of_ble_eq_true rfl) (Nat.le_of_ble_eq_true rfl) dX3_heatOf_22 rfl (by omega)
  · refine z_iload_n (pc := 4) 1 gg dX3_heatOf_4 rfl rfl ?_
    refine z_bipush (pc := 5) gg dX3_heatOf_5 (by decide +kernel) ?_
    refine z_icmp_ge (pc := 7) 21 gg dX3_heatOf_7 (by decide) ⟨by omega, by omega⟩ ⟨by omega, by omega⟩ (fun h7 => ?_) (fun h7 => ?_)
    · refine z_iconst (pc := 21) gg dX3_heatOf_21 ?_
      exact hret (-1) () 22 _ _ _ (Nat.le_of_ble_eq_true rfl) (Nat.le_of_ble_eq_true rfl) dX3_heatOf_22 rfl (by omega)
    · refine z_aload_n (pc := 10) 0 gg dX3_heatOf_10 rfl rfl ?_
      refine z_get (pc := 11) 0 gg fl_X3_11 dX3_heatOf_11 rfl rfl ?_
      refine z_iload_n (pc := 14) 1 gg dX3_heatOf_14 rfl rfl ?_
      refine z_iconst (pc := 15) gg dX3_heatOf_15 ?_
      refine z_iadd (pc := 16) gg dX3_heatOf_16 ?_
      refine z_iald (pc := 17) 1 (s.toNat + 1) gg dX3_heatOf_17 rfl (by omega) (by omega) (by decide) ?_
      refine z_goto (pc := 18) 22 gg dX3_heatOf_18 (by decide) ?_
      exact hret ((hx T f) (s.toNat + 1)) () 22 _ _ _ (Nat.le_of_ble_eq_true rfl) (Nat.le_of_ble_eq_true rfl) dX3_heatOf_22 rfl (Or.inl ⟨by omega, by omega, hx_s (by omega)⟩)
set_option maxHeartbeats 4000000 in
set_option maxRecDepth 100000 in
theorem c_H_cureOf (M : KM) (h a b c : Nat) (T : Int) (f bf cu : Nat → Int) (s : Int) (hs : zR s) : kCI M yX3_cureOf cX3_cureOf 2 .int 0 0 0 [cO 3 h [.ref a, .ref b, .ref c], cI M a 11 (hx T f), cI M b 11 bf, cI M c 9 cu] [.ref h, .int (zI s)] (fun z (u : Unit) => (0 ≤ s ∧ s < 9 ∧ z = cu s.toNat) ∨ ((s < 0 ∨ 9 ≤ s) ∧ z = -1)) (fun u => [cO 3 h [.ref a, .ref b, .ref c], cI M a 11 (hx T f), cI M b 11 bf, cI M c 9 cu]) := by
  refine kCI.of [(0, .ref h), (1, .int (zI s))] (by decide) (Nat.le_of_ble_eq_true rfl) rfl (fun E gg hret => ?_)
  have r1_hs := hs.1
  have r2_hs := hs.2
  refine z_iload_n (pc := 0) 1 gg dX3_cureOf_0 rfl rfl ?_
  refine z_if_lt (pc := 1) 19 gg dX3_cureOf_1 (by decide) ⟨by omega, by omega⟩ (fun h1 => ?_) (fun h1 => ?_)
  · refine z_iconst (pc := 19) gg dX3_cureOf_19 ?_
    exact hret (-1) () 20 _ _ _ (Nat.le_of_ble_eq_true rfl) (Nat.le_of_ble_eq_true rfl) dX3_cureOf_20 rfl (by omega)
  · refine z_iload_n (pc := 4) 1 gg dX3_cureOf_4 rfl rfl ?_
    refine z_bipush (pc := 5) gg dX3_cureOf_5 (by decide +kernel) ?_
    refine z_icmp_ge (pc := 7) 19 gg dX3_cureOf_7 (by decide) ⟨by omega, by omega⟩ ⟨by omega, by omega⟩ (fun h7 => ?_) (fun h7 => ?_)
    · refine z_iconst (pc := 19) gg dX3_cureOf_19 ?_
      exact hret (-1) () 20 _ _ _ (Nat.le_of_ble_eq_true rfl) (Nat.le_of_ble_eq_true rfl) dX3_cureOf_20 rfl (by omega)
    · refine z_aload_n (pc := 10) 0 gg dX3_cureOf_10 rfl rfl ?_
      refine z_get (pc := 11) 0 gg fl_X3_18 dX3_cureOf_11 rfl rfl ?_
      refine z_iload_n (pc := 14) 1 gg dX3_cureOf_14 rfl rfl ?_
      refine z_iald (pc := 15) 3 s.toNat gg dX3_cureOf_15 rfl (by omega) (by omega) (by decide) ?_
      refine z_goto (pc := 16) 20 gg dX3_cureOf_16 (by decide) ?_
      exact hret (cu s.toNat) () 20 _ _ _ (Nat.le_of_ble_eq_true rfl) (Nat.le_of_ble_eq_true rfl) dX3_cureOf_20 rfl (by omega)
set_option maxHeartbeats 4000000 in
set_option maxRecDepth 100000 in
theorem c_H_steamOf (M : KM) (h a b c : Nat) (T : Int) (f bf cu : Nat → Int) (s d : Int) (hs : zR s) (hd : 0 ≤ d ∧ d ≤ 20) (hf : ∀ j, j < 9 → 0 ≤ f j ∧ f j ≤ 25000) : kCI M yX3_steamOf cX3_steamOf 4 .int 0 0 0 [cO 3 h [.ref a, .ref b, .ref c], cI M a 11 (hx T f), cI M b 11 bf, cI M c 9 cu] [.ref h, .int (zI s), .int (zI d)] (fun z (u : Unit) => (0 ≤ s ∧ s < 9 ∧ z = stm (f s.toNat) d) ∨ ((s < 0 ∨ 9 ≤ s) ∧ z = -1)) (fun u => [cO 3 h [.ref a, .ref b, .ref c], cI M a 11 (hx T f), cI M b 11 bf, cI M c 9 cu]) := by
  refine kCI.of [(0, .ref h), (1, .int (zI s)), (2, .int (zI d))] (by decide) (Nat.le_of_ble_eq_true rfl) rfl (fun E gg hret => ?_)
  have r1_hs := hs.1
  have r2_hs := hs.2
  refine z_iload_n (pc := 0) 1 gg dX3_steamOf_0 rfl rfl ?_
  refine z_if_lt (pc := 1) 10 gg dX3_steamOf_1 (by decide) ⟨by omega, by omega⟩ (fun h1 => ?_) (fun h1 => ?_)
  · refine z_iconst (pc := 10) gg dX3_steamOf_10 ?_
    exact hret (-1) () 11 _ _ _ (Nat.le_of_ble_eq_true rfl) (Nat.le_of_ble_eq_true rfl) dX3_steamOf_11 rfl (by omega)
  · refine z_iload_n (pc := 4) 1 gg dX3_steamOf_4 rfl rfl ?_
    refine z_bipush (pc := 5) gg dX3_steamOf_5 (by decide +kernel) ?_
    refine z_icmp_lt (pc := 7) 12 gg dX3_steamOf_7 (by decide) ⟨by omega, by omega⟩ ⟨by omega, by omega⟩ (fun h7 => ?_) (fun h7 => ?_)
    · refine z_aload_n (pc := 12) 0 gg dX3_steamOf_12 rfl rfl ?_
      refine z_get (pc := 13) 0 gg fl_X3_11 dX3_steamOf_13 rfl rfl ?_
      refine z_iload_n (pc := 16) 1 gg dX3_steamOf_16 rfl rfl ?_
      refine z_iconst (pc := 17) gg dX3_steamOf_17 ?_
      refine z_iadd (pc := 18) gg dX3_steamOf_18 ?_
      refine z_iald (pc := 19) 1 (s.toNat + 1) gg dX3_steamOf_19 rfl (by omega) (by omega) (by decide) ?_
      rw [hx_s (show s.toNat < 9 by omega)]
      have hb2 := hf s.toNat (by omega)
      refine z_sipush (pc := 20) gg dX3_steamOf_20 (by decide +kernel) ?_
      refine z_isub (pc := 23) gg dX3_steamOf_23 ?_
      refine z_istore_n (pc := 24) [(3, .int (zI ((f s.toNat) - 10000))), (0, .ref h), (1, .int (zI s)), (2, .int (zI d))] gg dX3_steamOf_24 rfl (Nat.le_of_ble_eq_true rfl) rfl ?_
      refine z_iload_n (pc := 25) 0 gg dX3_steamOf_25 rfl rfl ?_
      refine z_if_le (pc := 26) 38 gg dX3_steamOf_26 (by decide) ⟨by omega, by omega⟩ (fun h26 => ?_) (fun h26 => ?_)
      · refine z_iconst (pc := 38) gg dX3_steamOf_38 ?_
        exact hret 0 () 39 _ _ _ (Nat.le_of_ble_eq_true rfl) (Nat.le_of_ble_eq_true rfl) dX3_steamOf_39 rfl (Or.inl ⟨by omega, by omega, by unfold stm; rw [if_neg (by omega)]⟩)
      · refine z_iload_n (pc := 29) 0 gg dX3_steamOf_29 rfl rfl ?_
        refine z_iload_n (pc := 30) 3 gg dX3_steamOf_30 rfl rfl ?_
        refine z_imul (pc := 31) gg dX3_steamOf_31 ?_
        have m1 : 0 ≤ (f s.toNat - 10000) * d := Int.mul_nonneg (by omega) hd.1
        have m2 : (f s.toNat - 10000) * d ≤ 15000 * 20 := Int.mul_le_mul (by omega) hd.2 hd.1 (by omega)
        refine z_bipush (pc := 32) gg dX3_steamOf_32 (by decide +kernel) ?_
        refine z_idivn (pc := 34) gg dX3_steamOf_34 (by omega) (by omega) (by omega) (by omega) ?_
        refine z_goto (pc := 35) 39 gg dX3_steamOf_35 (by decide) ?_
        exact hret ((((f s.toNat) - 10000) * d) / 100) () 39 _ _ _ (Nat.le_of_ble_eq_true rfl) (Nat.le_of_ble_eq_true rfl) dX3_steamOf_39 rfl (Or.inl ⟨by omega, by omega, by unfold stm; rw [if_pos (by omega)]⟩)
    · refine z_iconst (pc := 10) gg dX3_steamOf_10 ?_
      exact hret (-1) () 11 _ _ _ (Nat.le_of_ble_eq_true rfl) (Nat.le_of_ble_eq_true rfl) dX3_steamOf_11 rfl (by omega)
set_option maxHeartbeats 4000000 in
set_option maxRecDepth 100000 in
theorem c_H_mayOpen (M : KM) (h a b c : Nat) (T : Int) (f bf cu : Nat → Int) (need d : Int) (hn : 0 ≤ need ∧ need ≤ 5000) (hd : 0 ≤ d ∧ d ≤ 20) (hf : ∀ j, j < 9 → 0 ≤ f j ∧ f j ≤ 25000) (hc : ∀ j, j < 9 → 0 ≤ cu j ∧ cu j ≤ 1000000) : kCI M yX3_mayOpen cX3_mayOpen 4 .boolean 1 0 0 [cO 3 h [.ref a, .ref b, .ref c], cI M a 11 (hx T f), cI M b 11 bf, cI M c 9 cu] [.ref h, .int (zI need), .int (zI d)] (fun z (u : Unit) => (z = 1 ∧ opn f cu need d) ∨ (z = 0 ∧ ¬ opn f cu need d)) (fun u => [cO 3 h [.ref a, .ref b, .ref c], cI M a 11 (hx T f), cI M b 11 bf, cI M c 9 cu]) := by
  refine kCI.of [(0, .ref h), (1, .int (zI need)), (2, .int (zI d))] (by decide) (Nat.le_of_ble_eq_true rfl) rfl (fun E gg hret => ?_)
  refine z_iconst (pc := 0) gg dX3_mayOpen_0 ?_
  refine z_istore_n (pc := 1) [(3, .int (zI 0)), (0, .ref h), (1, .int (zI need)), (2, .int (zI d))] gg dX3_mayOpen_1 rfl (Nat.le_of_ble_eq_true rfl) rfl ?_
  have loop2 : ∀ (k2 : Nat) (i : Int), (0 ≤ i ∧ i ≤ 9) → (∀ s, s < i.toNat → need ≤ cu s ∧ stm (f s) d ≤ cu s) → 9 - i.toNat < k2 → kV M E 4 0 0 [cO 3 h [.ref a, .ref b, .ref c], cI M a 11 (hx T f), cI M b 11 bf, cI M c 9 cu] [(3, .int (zI i)), (0, .ref h), (1, .int (zI need)), (2, .int (zI d))] 2 [] := by
    intro k2
    induction k2 with
    | zero => intro i hi ko hm2; exact absurd hm2 (Nat.not_lt_zero _)
    | succ k2 ih2 =>
      intro i hi ko hm2
      refine z_iload_n (pc := 2) 0 gg dX3_mayOpen_2 rfl rfl ?_
      refine z_bipush (pc := 3) gg dX3_mayOpen_3 (by decide +kernel) ?_
      refine z_icmp_ge (pc := 5) 41 gg dX3_mayOpen_5 (by decide) ⟨by omega, by omega⟩ ⟨by omega, by omega⟩ (fun h5 => ?_) (fun h5 => ?_)
      · refine z_iconst (pc := 41) gg dX3_mayOpen_41 ?_
        exact hret 1 () 42 _ _ _ (Nat.le_of_ble_eq_true rfl) (Nat.le_of_ble_eq_true rfl) dX3_mayOpen_42 (zB01 (by omega)) (Or.inl ⟨rfl, fun s hs => ko s (by omega)⟩)
      · refine z_aload_n (pc := 8) 1 gg dX3_mayOpen_8 rfl rfl ?_
        refine z_get (pc := 9) 0 gg fl_X3_18 dX3_mayOpen_9 rfl rfl ?_
        refine z_iload_n (pc := 12) 0 gg dX3_mayOpen_12 rfl rfl ?_
        refine z_iald (pc := 13) 3 i.toNat gg dX3_mayOpen_13 rfl (by omega) (by omega) (by decide) ?_
        have hf13 := hc i.toNat (by omega)
        refine z_iload_n (pc := 14) 2 gg dX3_mayOpen_14 rfl rfl ?_
        refine z_icmp_lt (pc := 15) 33 gg dX3_mayOpen_15 (by decide) ⟨by omega, by omega⟩ ⟨by omega, by omega⟩ (fun h15 => ?_) (fun h15 => ?_)
        · refine z_iconst (pc := 33) gg dX3_mayOpen_33 ?_
          exact hret 0 () 34 _ _ _ (Nat.le_of_ble_eq_true rfl) (Nat.le_of_ble_eq_true rfl) dX3_mayOpen_34 (zB01 (by omega)) (Or.inr ⟨rfl, fun ho => by have := ho i.toNat (by omega); omega⟩)
        · refine z_aload_n (pc := 18) 1 gg dX3_mayOpen_18 rfl rfl ?_
          refine z_iload_n (pc := 19) 0 gg dX3_mayOpen_19 rfl rfl ?_
          refine z_iload_n (pc := 20) 3 gg dX3_mayOpen_20 rfl rfl ?_
          refine z_callWi (pc := 21) (As := [.int (zI i), .int (zI d)]) (st := []) gg (c_H_steamOf M h a b c T f bf cu i d (by first | assumption | omega | exact ⟨by omega, by omega⟩) (by first | assumption | omega | exact ⟨by omega, by omega⟩) (by first | assumption | omega | exact ⟨by omega, by omega⟩)) yv_3_steamOf ml_X3_27 dX3_mayOpen_21 (by decide) (Nat.le_of_ble_eq_true rfl) (Nat.le_of_ble_eq_true rfl) (Nat.le_of_ble_eq_true rfl) rfl rfl rfl (fun z21 u21 hz21 => ?_)
          have hz9 : z21 = stm (f i.toNat) d := by omega
          have sb := stm_b (hf i.toNat (by omega)).2 hd
          rw [← hz9] at sb
          refine z_aload_n (pc := 24) 1 gg dX3_mayOpen_24 rfl rfl ?_
          refine z_get (pc := 25) 0 gg fl_X3_18 dX3_mayOpen_25 rfl rfl ?_
          refine z_iload_n (pc := 28) 0 gg dX3_mayOpen_28 rfl rfl ?_
          refine z_iald (pc := 29) 3 i.toNat gg dX3_mayOpen_29 rfl (by omega) (by omega) (by decide) ?_
          have hf29 := hc i.toNat (by omega)
          refine z_icmp_le (pc := 30) 35 gg dX3_mayOpen_30 (by decide) ⟨by omega, by omega⟩ ⟨by omega, by omega⟩ (fun h30 => ?_) (fun h30 => ?_)
          · refine z_iinc (pc := 35) 0 [(3, .int (zI (i + 1))), (0, .ref h), (1, .int (zI need)), (2, .int (zI d))] gg dX3_mayOpen_35 rfl (Nat.le_of_ble_eq_true rfl) rfl ?_
            refine z_goto (pc := 38) 2 gg dX3_mayOpen_38 (by decide) ?_
            exact ih2 (i + 1) (by omega) (fun s hs => by
        by_cases e : s = i.toNat
        · rw [e]; omega
        · exact ko s (by omega)) (by omega)
          · refine z_iconst (pc := 33) gg dX3_mayOpen_33 ?_
            exact hret 0 () 34 _ _ _ (Nat.le_of_ble_eq_true rfl) (Nat.le_of_ble_eq_true rfl) dX3_mayOpen_34 (zB01 (by omega)) (Or.inr ⟨rfl, fun ho => by have := ho i.toNat (by omega); omega⟩)
  exact loop2 _ 0 (by omega) (fun j hj => absurd hj (by omega)) (Nat.lt_succ_self _)
end
section
/-! the drawers' law, pasted from the kit's texts to paste -/
theorem fb_holes : ∀ (m n : Nat) (f : Nat → Nat), (∀ i, i < n → f i < m) → (∀ i j, i < j → j < n → f i ≠ f j) → n ≤ m := by
  intro m
  induction m with
  | zero =>
    intro n f h1 _
    rcases Nat.eq_zero_or_pos n with h | h
    · omega
    · exact absurd (h1 0 h) (Nat.not_lt_zero _)
  | succ m ih =>
    intro n f h1 h2
    by_cases hx : ∃ i, i < n ∧ f i = m
    · obtain ⟨a, ha, hfa⟩ := hx
      have hg := ih (n - 1) (fun i => if i < a then f i else f (i + 1)) (by
        intro i hi
        by_cases q : i < a
        · simp only [if_pos q]
          have b1 := h1 i (by omega)
          have b2 := h2 i a q ha
          omega
        · simp only [if_neg q]
          have b1 := h1 (i + 1) (by omega)
          have b2 := h2 a (i + 1) (by omega) (by omega)
          omega) (by
        intro i j hij hj
        by_cases q : i < a
        · by_cases r : j < a
          · simp only [if_pos q, if_pos r]
            exact h2 i j hij (by omega)
          · simp only [if_pos q, if_neg r]
            exact h2 i (j + 1) (by omega) (by omega)
        · have r : ¬ j < a := by omega
          simp only [if_neg q, if_neg r]
          exact h2 (i + 1) (j + 1) (by omega) (by omega))
      omega
    · have hg := ih n f (fun i hi => by
        have b1 := h1 i hi
        have b2 : f i ≠ m := fun e => hx ⟨i, hi, e⟩
        omega) h2
      omega

/-! the dryer's table as spots (4 times the state, and the danger) and events -/
def nxD (dl dw : Nat → Int) (v e : Nat) : Nat := 4 * (dl (v / 4 * 4 + e)).toNat + (if e = 1 then 3 else v % 4 - (if dw (dl (v / 4 * 4 + e)).toNat = 0 then 1 else 2))
def bdD (df : Nat → Int) (v : Nat) : Prop := df (v / 4) = 1 ∧ 2 ≤ v % 4
theorem bdD_0 (df : Nat → Int) : ¬ bdD df 0 := fun h => absurd h.2 (by omega)
/-- the search's rows hold what the search knows -/
def QI (dl dw df : Nat → Int) (n : Int) (fs fq ff fb : Nat → Int) (qn fn bn dp : Nat → Nat) (K : Nat) : Prop :=
  BI (nxD dl dw) (bdD df) n.toNat qn fn bn dp K ∧ (0 ≤ n ∧ n ≤ 32) ∧ (∀ c, c < n.toNat → fq c = (qn c : Int)) ∧ (∀ c, 1 ≤ c → c < n.toNat → ff c = (fn c : Int) ∧ fb c = (bn c : Int)) ∧
  (∀ v, v < 32 → (fs v = 1 ∧ ∃ c, c < n.toNat ∧ qn c = v) ∨ (fs v = 0 ∧ ∀ c, c < n.toNat → qn c ≠ v))
theorem QI_start {dl dw df fs fq ff fb : Nat → Int} (h0 : ∀ j, j < 32 → fs j = 0) : QI dl dw df 1 (zU fs 0 1) (zU fq 0 0) ff fb (fun _ => 0) (fun _ => 0) (fun _ => 0) (fun _ => 0) 0 := by
  refine ⟨BI_0 rfl rfl, by omega, fun c hc => ?_, fun c c1 c2 => ?_, fun v hv => ?_⟩
  · have e : c = 0 := by have : (1 : Int).toNat = 1 := rfl; omega
    rw [e, zU_s]; rfl
  · have : (1 : Int).toNat = 1 := rfl
    omega
  · by_cases e : v = 0
    · left; rw [e, zU_s]; exact ⟨rfl, 0, by decide, rfl⟩
    · right; rw [zU_n _ _ e]; exact ⟨h0 v hv, fun c _ h => e h.symm⟩
theorem QI_old {dl dw df : Nat → Int} {n : Int} {fs fq ff fb : Nat → Int} {qn fn bn dp : Nat → Nat} {p e : Int} {v : Nat} (h : QI dl dw df n fs fq ff fb qn fn bn dp (4 * p.toNat + e.toNat)) (hp : 0 ≤ p ∧ p < n) (he : 0 ≤ e ∧ e < 4) (hv : v = nxD dl dw (qn p.toNat) e.toNat) (hv2 : v < 32) (hs : fs v = 1) : QI dl dw df n fs fq ff fb qn fn bn dp (4 * p.toNat + (e + 1).toNat) := by
  obtain ⟨h1, h2, h3, h4, h5⟩ := h
  have hc : ∃ c, c < n.toNat ∧ qn c = v := by
    rcases h5 v hv2 with q | q
    · exact q.2
    · omega
  refine ⟨?_, h2, h3, h4, h5⟩
  rw [show 4 * p.toNat + (e + 1).toNat = 4 * p.toNat + e.toNat + 1 by omega]
  subst hv
  refine BI_old h1 (by omega) (by omega) ?_ hc
  obtain ⟨c, c1, c2⟩ := hc
  rw [← c2]
  exact BI_fresh h1 (bdD_0 df) c c1
theorem QI_room {dl dw df : Nat → Int} {n : Int} {fs fq ff fb : Nat → Int} {qn fn bn dp : Nat → Nat} {K v : Nat} (h : QI dl dw df n fs fq ff fb qn fn bn dp K) (hv2 : v < 32) (hs : fs v = 0) : n < 32 := by
  obtain ⟨h1, h2, h3, h4, h5⟩ := h
  have hc : ∀ c, c < n.toNat → qn c ≠ v := by
    rcases h5 v hv2 with q | q
    · omega
    · exact q.2
  obtain ⟨⟨g1, g2, g3, g4⟩, i2, -⟩ := h1
  have := fb_holes 32 (n.toNat + 1) (nU qn n.toNat v) (fun i hi => by
    by_cases e : i = n.toNat
    · rw [e, nU_s]; exact hv2
    · rw [nU_n _ _ e]; exact g4 i (by omega)) (fun i j hij hj => by
    by_cases e : j = n.toNat
    · rw [e, nU_s, nU_n _ _ (by omega)]; exact hc i (by omega)
    · rw [nU_n _ _ e, nU_n _ _ (by omega)]
      intro q
      have := i2 i j (by omega) (by omega) q
      omega)
  omega
theorem QI_new {dl dw df : Nat → Int} {n : Int} {fs fq ff fb : Nat → Int} {qn fn bn dp : Nat → Nat} {p e : Int} {v : Nat} (h : QI dl dw df n fs fq ff fb qn fn bn dp (4 * p.toNat + e.toNat)) (hp : 0 ≤ p ∧ p < n) (he : 0 ≤ e ∧ e < 4) (hv : v = nxD dl dw (qn p.toNat) e.toNat) (hv2 : v < 32) (hs : fs v = 0) (hnb : ¬ bdD df v) {x : Int} (hx : x = (v : Int)) :
    QI dl dw df (n + 1) (zU fs v 1) (zU fq n.toNat x) (zU ff n.toNat p) (zU fb n.toNat e) (nU qn n.toNat v) (nU fn n.toNat p.toNat) (nU bn n.toNat e.toNat) (nU dp n.toNat (dp p.toNat + 1)) (4 * p.toNat + (e + 1).toNat) := by
  subst hx
  have hr := QI_room h hv2 hs
  obtain ⟨h1, h2, h3, h4, h5⟩ := h
  have hc : ∀ c, c < n.toNat → qn c ≠ v := by
    rcases h5 v hv2 with q | q
    · omega
    · exact q.2
  have en : (n + 1).toNat = n.toNat + 1 := by omega
  unfold QI
  rw [en]
  refine ⟨?_, by omega, fun c hcc => ?_, fun c c1 c2 => ?_, fun w hw => ?_⟩
  · rw [show 4 * p.toNat + (e + 1).toNat = 4 * p.toNat + e.toNat + 1 by omega]
    subst hv
    exact BI_new h1 (by omega) (by omega) hv2 hnb hc
  · by_cases q : c = n.toNat
    · rw [q, zU_s, nU_s]
    · rw [zU_n _ _ q, nU_n _ _ q]; exact h3 c (by omega)
  · by_cases q : c = n.toNat
    · rw [q, zU_s, nU_s, zU_s, nU_s]; omega
    · rw [zU_n _ _ q, nU_n _ _ q, zU_n _ _ q, nU_n _ _ q]; exact h4 c c1 (by omega)
  · by_cases q : w = v
    · left
      rw [q, zU_s]
      exact ⟨rfl, n.toNat, by omega, nU_s _ _ _⟩
    · rw [zU_n _ _ q]
      rcases h5 w hw with ⟨a, c, c1, c2⟩ | ⟨a, a2⟩
      · left; exact ⟨a, c, by omega, by rw [nU_n _ _ (by omega)]; exact c2⟩
      · right
        refine ⟨a, fun c hcc => ?_⟩
        by_cases r : c = n.toNat
        · rw [r, nU_s]; exact fun x => q x.symm
        · rw [nU_n _ _ r]; exact a2 c (by omega)
theorem anc_cong {f g : Nat → Nat} {a : Nat} : ∀ j, (∀ i, i < j → f (anc f a i) = g (anc f a i)) → anc f a j = anc g a j
  | 0, _ => rfl
  | j + 1, h => by
    have h1 := anc_cong (f := f) (g := g) (a := a) j (fun i hi => h i (by omega))
    show f (anc f a j) = g (anc g a j)
    rw [← h1]
    exact h j (by omega)
/-- the bad spot is found: the chain from its place, and what it says -/
theorem QI_found {dl dw df : Nat → Int} {n : Int} {fs fq ff fb : Nat → Int} {qn fn bn dp : Nat → Nat} {p e : Int} {v : Nat} (h : QI dl dw df n fs fq ff fb qn fn bn dp (4 * p.toNat + e.toNat)) (hp : 0 ≤ p ∧ p < n) (he : 0 ≤ e ∧ e < 4) (hv : v = nxD dl dw (qn p.toNat) e.toNat) (hn : n < 32) (hb : bdD df v) :
    ∃ (f2 b2 : Nat → Nat) (L : Nat), L ≤ 31 ∧ isRow (nxD dl dw) (bdD df) L (fun i => b2 (anc f2 n.toNat (L - 1 - i))) ∧ anc f2 n.toNat L = 0 ∧ (∀ j, j < L → 1 ≤ anc f2 n.toNat j ∧ anc f2 n.toNat j < 32 ∧ zU ff n.toNat p (anc f2 n.toNat j) = (f2 (anc f2 n.toNat j) : Int)) ∧ ∀ j, j < L → zU fb n.toNat e (anc f2 n.toNat j) = (b2 (anc f2 n.toNat j) : Int) := by
  obtain ⟨h1, h2, h3, h4, h5⟩ := h
  obtain ⟨⟨g1, g2, g3, g4⟩, i2, i3, i4, i5⟩ := h1
  have hN : ∀ (f : Nat → Nat) (x : Nat) {j : Nat}, j < n.toNat → nU f n.toNat x j = f j := fun f x j hj => nU_n _ _ (by omega)
  have key := BI_found (nx := nxD dl dw) (bd := bdD df) (n := n.toNat) (qn := nU qn n.toNat v) (fn := nU fn n.toNat p.toNat) (bn := nU bn n.toNat e.toNat) (dp := nU dp n.toNat (dp p.toNat + 1)) g1 (by rw [hN _ _ (by omega)]; exact g2) (by rw [hN _ _ (by omega)]; exact g3) (fun c c1 c2 => by
      by_cases q : c = n.toNat
      · rw [q, nU_s, nU_s, nU_s, nU_s, hN _ _ (by omega), hN _ _ (by omega)]
        exact ⟨by omega, by omega, hv, rfl⟩
      · obtain ⟨a1, a2, a3, a4, a5⟩ := i3 c c1 (by omega)
        rw [hN _ _ (by omega), hN _ _ (by omega), hN _ _ (by omega), hN _ _ (by omega), hN _ _ (by omega), hN _ _ (by omega)]
        exact ⟨a1, a2, a3, a4⟩) (fun c c' c1 c2 c3 => by
      by_cases q : c' = n.toNat
      · rw [q, nU_s, nU_s, hN _ _ (by omega), hN _ _ (by omega)]
        exact (i3 c c1 (by omega)).2.2.2.2
      · rw [hN _ _ (by omega), hN _ _ (by omega), hN _ _ (by omega), hN _ _ (by omega)]
        exact i4 c c' c1 c2 (by omega)) (fun a b hb4 hk => by
      rw [nU_s, nU_s] at hk
      obtain ⟨b1, b2, c, b3, b4, b5⟩ := i5 a b hb4 hk
      rw [hN _ _ b1]
      refine ⟨b2, c, by omega, by rw [hN _ _ b3]; exact b4, ?_⟩
      rw [hN _ _ b3, hN _ _ b3]
      exact b5) (by rw [nU_s]; exact hb)
  obtain ⟨k1, k2, k3⟩ := key
  refine ⟨nU fn n.toNat p.toNat, nU bn n.toNat e.toNat, nU dp n.toNat (dp p.toNat + 1) n.toNat, ?_, k1, k2, fun j hj => ?_, fun j hj => ?_⟩
  · -- the chain's places are apart and below 32
    have := fb_holes 31 (nU dp n.toNat (dp p.toNat + 1) n.toNat) (fun j => anc (nU fn n.toNat p.toNat) n.toNat j - 1) (fun i hi => by
      have := k3 i hi
      show anc (nU fn n.toNat p.toNat) n.toNat i - 1 < 31
      omega) (fun i j hij hj => by
      have hdec : ∀ t, i + t < nU dp n.toNat (dp p.toNat + 1) n.toNat → anc (nU fn n.toNat p.toNat) n.toNat (i + t) + t ≤ anc (nU fn n.toNat p.toNat) n.toNat i := by
        intro t
        induction t with
        | zero => intro _; exact Nat.le_refl _
        | succ t ih =>
          intro ht
          have a := ih (by omega)
          have b := k3 (i + t) (by omega)
          have c : anc (nU fn n.toNat p.toNat) n.toNat (i + (t + 1)) = nU fn n.toNat p.toNat (anc (nU fn n.toNat p.toNat) n.toNat (i + t)) := rfl
          have d : nU fn n.toNat p.toNat (anc (nU fn n.toNat p.toNat) n.toNat (i + t)) < anc (nU fn n.toNat p.toNat) n.toNat (i + t) := by
            by_cases q : anc (nU fn n.toNat p.toNat) n.toNat (i + t) = n.toNat
            · rw [q, nU_s]; omega
            · rw [hN _ _ (by omega)]
              exact (i3 _ b.1 (by omega)).1
          rw [c]
          omega
      have q1 := hdec (j - i) (by omega)
      rw [show i + (j - i) = j by omega] at q1
      have q2 := k3 j hj
      show anc (nU fn n.toNat p.toNat) n.toNat i - 1 ≠ anc (nU fn n.toNat p.toNat) n.toNat j - 1
      omega)
    exact this
  · obtain ⟨a1, a2⟩ := k3 j hj
    refine ⟨a1, by omega, ?_⟩
    by_cases q : anc (nU fn n.toNat p.toNat) n.toNat j = n.toNat
    · rw [q, zU_s, nU_s]; omega
    · rw [zU_n _ _ q, hN _ _ (by omega)]
      exact (h4 _ a1 (by omega)).1
  · obtain ⟨a1, a2⟩ := k3 j hj
    by_cases q : anc (nU fn n.toNat p.toNat) n.toNat j = n.toNat
    · rw [q, zU_s, nU_s]; omega
    · rw [zU_n _ _ q, hN _ _ (by omega)]
      exact (h4 _ a1 (by omega)).2
theorem QI_end {dl dw df : Nat → Int} {n : Int} {fs fq ff fb : Nat → Int} {qn fn bn dp : Nat → Nat} {K : Nat} (h : QI dl dw df n fs fq ff fb qn fn bn dp K) (hK : K = 4 * n.toNat) : noRow (nxD dl dw) (bdD df) := by
  subst hK
  exact BI_end h.1
/-- where an event leads: the program's own numbers -/
theorem nxD_of {dl dw : Nat → Int} {Q e : Nat} {to w d : Int} (ht : to = dl (Q / 4 * 4 + e)) (ht2 : 0 ≤ to ∧ to < 8) (hw : w = dw to.toNat) (hw2 : w = 0 ∨ w = 1) (hQ : Q < 32)
    (hd : (e = 1 ∧ d = 3) ∨ (e ≠ 1 ∧ w = 0 ∧ (((Q % 4 : Nat) : Int) < 1 ∧ d = 0 ∨ 1 ≤ ((Q % 4 : Nat) : Int) ∧ d = ((Q % 4 : Nat) : Int) - 1)) ∨ (e ≠ 1 ∧ w = 1 ∧ (((Q % 4 : Nat) : Int) < 2 ∧ d = 0 ∨ 2 ≤ ((Q % 4 : Nat) : Int) ∧ d = ((Q % 4 : Nat) : Int) - 2))) :
    (to * 4 + d).toNat = nxD dl dw Q e ∧ 0 ≤ d ∧ d ≤ 3 ∧ nxD dl dw Q e < 32 ∧ nxD dl dw Q e / 4 = to.toNat ∧ ((nxD dl dw Q e % 4 : Nat) : Int) = d := by
  unfold nxD
  rw [← ht, ← hw]
  rcases hd with ⟨a, b⟩ | ⟨a, b, c⟩ | ⟨a, b, c⟩
  · rw [if_pos a]
    omega
  · rw [if_neg a, if_pos b]
    omega
  · rw [if_neg a, if_neg (by omega)]
    omega
end
section
set_option maxHeartbeats 4000000 in
set_option maxRecDepth 100000 in
theorem c_R_init (M : KM) (h : Nat)  : kCV M yX7_init cX7_init 1 1 5 160 [cO 7 h [.null, .null, .null, .null, .null, .int (zI 0)]] [.ref h] (fun u : Nat × Nat × Nat × Nat × Nat => True) (fun u => [cO 7 h [.ref u.1, .ref u.2.1, .ref u.2.2.1, .ref u.2.2.2.1, .ref u.2.2.2.2, .int (zI 0)], cZ M u.1 32 (fun _ => 0), cI M u.2.1 32 (fun _ => 0), cI M u.2.2.1 32 (fun _ => 0), cI M u.2.2.2.1 32 (fun _ => 0), cI M u.2.2.2.2 32 (fun _ => 0)]) := by
  refine kCV.of [(0, .ref h)] (by decide) (Nat.le_of_ble_eq_true rfl) rfl (fun E gg gn hret => ?_)
  refine z_aload_n (pc := 0) 0 gg dX7_init_0 rfl rfl ?_
  refine z_obj (pc := 1) gg dX7_init_1 ml_X7_7 oi_1 oi_2 (by decide) (Nat.le_of_ble_eq_true rfl) ?_
  refine z_aload_n (pc := 4) 0 gg dX7_init_4 rfl rfl ?_
  refine z_bipush (pc := 5) gg dX7_init_5 (by decide +kernel) ?_
  refine z_newaZ (pc := 7) gg dX7_init_7 ar_Z rfl (by decide) (Nat.le_of_ble_eq_true rfl) (Nat.le_of_ble_eq_true rfl) (fun q1 => ?_)
  show kV M E 1 _ _ [cO 7 h [.null, .null, .null, .null, .null, .int (zI 0)], cZ M q1 32 (fun _ => 0)] _ _ _
  refine z_putF (pc := 9) 0 [cO 7 h [.ref q1, .null, .null, .null, .null, .int (zI 0)], cZ M q1 32 (fun _ => 0)] gg gn fp_X7_13 dX7_init_9 rfl rfl rfl (Nat.le_of_ble_eq_true rfl) rfl ?_
  refine z_aload_n (pc := 12) 0 gg dX7_init_12 rfl rfl ?_
  refine z_bipush (pc := 13) gg dX7_init_13 (by decide +kernel) ?_
  refine z_newaI (pc := 15) gg dX7_init_15 ar_I rfl (by decide) (Nat.le_of_ble_eq_true rfl) (Nat.le_of_ble_eq_true rfl) (fun q2 => ?_)
  show kV M E 1 _ _ [cO 7 h [.ref q1, .null, .null, .null, .null, .int (zI 0)], cZ M q1 32 (fun _ => 0), cI M q2 32 (fun _ => 0)] _ _ _
  refine z_putF (pc := 17) 0 [cO 7 h [.ref q1, .ref q2, .null, .null, .null, .int (zI 0)], cZ M q1 32 (fun _ => 0), cI M q2 32 (fun _ => 0)] gg gn fp_X7_17 dX7_init_17 rfl rfl rfl (Nat.le_of_ble_eq_true rfl) rfl ?_
  refine z_aload_n (pc := 20) 0 gg dX7_init_20 rfl rfl ?_
  refine z_bipush (pc := 21) gg dX7_init_21 (by decide +kernel) ?_
  refine z_newaI (pc := 23) gg dX7_init_23 ar_I rfl (by decide) (Nat.le_of_ble_eq_true rfl) (Nat.le_of_ble_eq_true rfl) (fun q3 => ?_)
  show kV M E 1 _ _ [cO 7 h [.ref q1, .ref q2, .null, .null, .null, .int (zI 0)], cZ M q1 32 (fun _ => 0), cI M q2 32 (fun _ => 0), cI M q3 32 (fun _ => 0)] _ _ _
  refine z_putF (pc := 25) 0 [cO 7 h [.ref q1, .ref q2, .ref q3, .null, .null, .int (zI 0)], cZ M q1 32 (fun _ => 0), cI M q2 32 (fun _ => 0), cI M q3 32 (fun _ => 0)] gg gn fp_X7_21 dX7_init_25 rfl rfl rfl (Nat.le_of_ble_eq_true rfl) rfl ?_
  refine z_aload_n (pc := 28) 0 gg dX7_init_28 rfl rfl ?_
  refine z_bipush (pc := 29) gg dX7_init_29 (by decide +kernel) ?_
  refine z_newaI (pc := 31) gg dX7_init_31 ar_I rfl (by decide) (Nat.le_of_ble_eq_true rfl) (Nat.le_of_ble_eq_true rfl) (fun q4 => ?_)
  show kV M E 1 _ _ [cO 7 h [.ref q1, .ref q2, .ref q3, .null, .null, .int (zI 0)], cZ M q1 32 (fun _ => 0), cI M q2 32 (fun _ => 0), cI M q3 32 (fun _ => 0), cI M q4 32 (fun _ => 0)] _ _ _
  refine z_putF (pc := 33) 0 [cO 7 h [.ref q1, .ref q2, .ref q3, .ref q4, .null, .int (zI 0)], cZ M q1 32 (fun _ => 0), cI M q2 32 (fun _ => 0), cI M q3 32 (fun _ => 0), cI M q4 32 (fun _ => 0)] gg gn fp_X7_24 dX7_init_33 rfl rfl rfl (Nat.le_of_ble_eq_true rfl) rfl ?_
  refine z_aload_n (pc := 36) 0 gg dX7_init_36 rfl rfl ?_
  refine z_bipush (pc := 37) gg dX7_init_37 (by decide +kernel) ?_
  refine z_newaI (pc := 39) gg dX7_init_39 ar_I rfl (by decide) (Nat.le_of_ble_eq_true rfl) (Nat.le_of_ble_eq_true rfl) (fun q5 => ?_)
  show kV M E 1 _ _ [cO 7 h [.ref q1, .ref q2, .ref q3, .ref q4, .null, .int (zI 0)], cZ M q1 32 (fun _ => 0), cI M q2 32 (fun _ => 0), cI M q3 32 (fun _ => 0), cI M q4 32 (fun _ => 0), cI M q5 32 (fun _ => 0)] _ _ _
  refine z_putF (pc := 41) 0 [cO 7 h [.ref q1, .ref q2, .ref q3, .ref q4, .ref q5, .int (zI 0)], cZ M q1 32 (fun _ => 0), cI M q2 32 (fun _ => 0), cI M q3 32 (fun _ => 0), cI M q4 32 (fun _ => 0), cI M q5 32 (fun _ => 0)] gg gn fp_X7_27 dX7_init_41 rfl rfl rfl (Nat.le_of_ble_eq_true rfl) rfl ?_
  refine z_aload_n (pc := 44) 0 gg dX7_init_44 rfl rfl ?_
  refine z_iconst (pc := 45) gg dX7_init_45 ?_
  refine z_put (pc := 46) 0 [cO 7 h [.ref q1, .ref q2, .ref q3, .ref q4, .ref q5, .int (zI 0)], cZ M q1 32 (fun _ => 0), cI M q2 32 (fun _ => 0), cI M q3 32 (fun _ => 0), cI M q4 32 (fun _ => 0), cI M q5 32 (fun _ => 0)] gg fp_X7_30 dX7_init_46 rfl rfl rfl (Nat.le_of_ble_eq_true rfl) rfl ?_
  exact hret (q1, q2, q3, q4, q5) 49 _ _ _ (Nat.le_of_ble_eq_true rfl) (Nat.le_of_ble_eq_true rfl) dX7_init_49 trivial
set_option maxHeartbeats 4000000 in
set_option maxRecDepth 100000 in
theorem c_R_eventAt (M : KM) (h s0 q0 f0 b0 r0 : Nat) (n : Int) (fs fq ff fb fr : Nat → Int) (k : Int) (hk : zR k) : kCI M yX7_eventAt cX7_eventAt 2 .int 0 0 0 [cO 7 h [.ref s0, .ref q0, .ref f0, .ref b0, .ref r0, .int (zI n)], cZ M s0 32 fs, cI M q0 32 fq, cI M f0 32 ff, cI M b0 32 fb, cI M r0 32 fr] [.ref h, .int (zI k)] (fun z (u : Unit) => (0 ≤ k ∧ k < 32 ∧ z = fr k.toNat) ∨ ((k < 0 ∨ 32 ≤ k) ∧ z = -1)) (fun u => [cO 7 h [.ref s0, .ref q0, .ref f0, .ref b0, .ref r0, .int (zI n)], cZ M s0 32 fs, cI M q0 32 fq, cI M f0 32 ff, cI M b0 32 fb, cI M r0 32 fr]) := by
  refine kCI.of [(0, .ref h), (1, .int (zI k))] (by decide) (Nat.le_of_ble_eq_true rfl) rfl (fun E gg hret => ?_)
  have r1_hk := hk.1
  have r2_hk := hk.2
  refine z_iload_n (pc := 0) 1 gg dX7_eventAt_0 rfl rfl ?_
  refine z_if_lt (pc := 1) 19 gg dX7_eventAt_1 (by decide) ⟨by omega, by omega⟩ (fun h1 => ?_) (fun h1 => ?_)
  · refine z_iconst (pc := 19) gg dX7_eventAt_19 ?_
    exact hret (-1) () 20 _ _ _ (Nat.le_of_ble_eq_true rfl) (Nat.le_of_ble_eq_true rfl) dX7_eventAt_20 rfl (by omega)
  · refine z_iload_n (pc := 4) 1 gg dX7_eventAt_4 rfl rfl ?_
    refine z_bipush (pc := 5) gg dX7_eventAt_5 (by decide +kernel) ?_
    refine z_icmp_ge (pc := 7) 19 gg dX7_eventAt_7 (by decide) ⟨by omega, by omega⟩ ⟨by omega, by omega⟩ (fun h7 => ?_) (fun h7 => ?_)
    · refine z_iconst (pc := 19) gg dX7_eventAt_19 ?_
      exact hret (-1) () 20 _ _ _ (Nat.le_of_ble_eq_true rfl) (Nat.le_of_ble_eq_true rfl) dX7_eventAt_20 rfl (by omega)
    · refine z_aload_n (pc := 10) 0 gg dX7_eventAt_10 rfl rfl ?_
      refine z_get (pc := 11) 0 gg fl_X7_27 dX7_eventAt_11 rfl rfl ?_
      refine z_iload_n (pc := 14) 1 gg dX7_eventAt_14 rfl rfl ?_
      refine z_iald (pc := 15) 5 k.toNat gg dX7_eventAt_15 rfl (by omega) (by omega) (by decide) ?_
      refine z_goto (pc := 16) 20 gg dX7_eventAt_16 (by decide) ?_
      exact hret (fr k.toNat) () 20 _ _ _ (Nat.le_of_ble_eq_true rfl) (Nat.le_of_ble_eq_true rfl) dX7_eventAt_20 rfl (by omega)
set_option maxHeartbeats 4000000 in
set_option maxRecDepth 100000 in
theorem c_R_dangerAfter (M : KM) (d e w : Int) (hd : 0 ≤ d ∧ d ≤ 3) (he : 0 ≤ e ∧ e < 4) (hw : w = 0 ∨ w = 1) : kCI M yX7_dangerAfter cX7_dangerAfter 3 .int 1 0 0 [] [.int (zI d), .int (zI e), .int (zI w)] (fun z (u : Unit) => (e = 1 ∧ z = 3) ∨ (e ≠ 1 ∧ w = 0 ∧ ((d < 1 ∧ z = 0) ∨ (1 ≤ d ∧ z = d - 1))) ∨ (e ≠ 1 ∧ w = 1 ∧ ((d < 2 ∧ z = 0) ∨ (2 ≤ d ∧ z = d - 2)))) (fun u => []) := by
  refine kCI.of [(0, .int (zI d)), (1, .int (zI e)), (2, .int (zI w))] (by decide) (Nat.le_of_ble_eq_true rfl) rfl (fun E gg hret => ?_)
  refine z_iload_n (pc := 0) 1 gg dX7_dangerAfter_0 rfl rfl ?_
  refine z_iconst (pc := 1) gg dX7_dangerAfter_1 ?_
  refine z_icmp_ne (pc := 2) 7 gg dX7_dangerAfter_2 (by decide) ⟨by omega, by omega⟩ ⟨by omega, by omega⟩ (fun h2 => ?_) (fun h2 => ?_)
  · refine z_iconst (pc := 7) gg dX7_dangerAfter_7 ?_
    refine z_iload_n (pc := 8) 0 gg dX7_dangerAfter_8 rfl rfl ?_
    refine z_iload_n (pc := 9) 2 gg dX7_dangerAfter_9 rfl rfl ?_
    refine z_if_eq (pc := 10) 17 gg dX7_dangerAfter_10 (by decide) ⟨by omega, by omega⟩ (fun h10 => ?_) (fun h10 => ?_)
    · refine z_iconst (pc := 17) gg dX7_dangerAfter_17 ?_
      refine z_isub (pc := 18) gg dX7_dangerAfter_18 ?_
      refine z_max (pc := 19) gg dX7_dangerAfter_19 ml_X7_57 mm_max1 mm_0 mm_max2 (by decide) (Nat.le_of_ble_eq_true rfl) (Nat.le_of_ble_eq_true rfl) (Nat.le_of_ble_eq_true rfl) ⟨by omega, by omega⟩ ⟨by omega, by omega⟩ ?_
      exact hret (if 0 < (d - 1) then (d - 1) else 0) () 22 _ _ _ (Nat.le_of_ble_eq_true rfl) (Nat.le_of_ble_eq_true rfl) dX7_dangerAfter_22 rfl (by split <;> omega)
    · refine z_iconst (pc := 13) gg dX7_dangerAfter_13 ?_
      refine z_goto (pc := 14) 18 gg dX7_dangerAfter_14 (by decide) ?_
      refine z_isub (pc := 18) gg dX7_dangerAfter_18 ?_
      refine z_max (pc := 19) gg dX7_dangerAfter_19 ml_X7_57 mm_max1 mm_0 mm_max2 (by decide) (Nat.le_of_ble_eq_true rfl) (Nat.le_of_ble_eq_true rfl) (Nat.le_of_ble_eq_true rfl) ⟨by omega, by omega⟩ ⟨by omega, by omega⟩ ?_
      exact hret (if 0 < (d - 2) then (d - 2) else 0) () 22 _ _ _ (Nat.le_of_ble_eq_true rfl) (Nat.le_of_ble_eq_true rfl) dX7_dangerAfter_22 rfl (by split <;> omega)
  · refine z_iconst (pc := 5) gg dX7_dangerAfter_5 ?_
    exact hret 3 () 6 _ _ _ (Nat.le_of_ble_eq_true rfl) (Nat.le_of_ble_eq_true rfl) dX7_dangerAfter_6 rfl (by omega)
set_option maxHeartbeats 4000000 in
set_option maxRecDepth 100000 in
theorem c_R_reach_new (M : KM) (h s0 q0 f0 b0 r0 : Nat) (n : Int) (fs fq ff fb fr : Nat → Int) (v f e : Int) (hn : 0 ≤ n ∧ n < 32) (hv : 0 ≤ v ∧ v < 32) (hs : fs v.toNat = 0) : kCI M yX7_reach cX7_reach 4 .boolean 0 0 0 [cO 7 h [.ref s0, .ref q0, .ref f0, .ref b0, .ref r0, .int (zI n)], cZ M s0 32 fs, cI M q0 32 fq, cI M f0 32 ff, cI M b0 32 fb, cI M r0 32 fr] [.ref h, .int (zI v), .int (zI f), .int (zI e)] (fun z (u : Unit) => z = 1) (fun u => [cO 7 h [.ref s0, .ref q0, .ref f0, .ref b0, .ref r0, .int (zI (n + 1))], cZ M s0 32 (zU fs v.toNat 1), cI M q0 32 (zU fq n.toNat v), cI M f0 32 (zU ff n.toNat f), cI M b0 32 (zU fb n.toNat e), cI M r0 32 fr]) := by
  refine kCI.of [(0, .ref h), (1, .int (zI v)), (2, .int (zI f)), (3, .int (zI e))] (by decide) (Nat.le_of_ble_eq_true rfl) rfl (fun E gg hret => ?_)
  refine z_iload_n (pc := 0) 1 gg dX7_reach_0 rfl rfl ?_
  refine z_if_lt (pc := 1) 35 gg dX7_reach_1 (by decide) ⟨by omega, by omega⟩ (fun h1 => ?_) (fun h1 => ?_)
  · exfalso; omega
  · refine z_iload_n (pc := 4) 1 gg dX7_reach_4 rfl rfl ?_
    refine z_bipush (pc := 5) gg dX7_reach_5 (by decide +kernel) ?_
    refine z_icmp_ge (pc := 7) 35 gg dX7_reach_7 (by decide) ⟨by omega, by omega⟩ ⟨by omega, by omega⟩ (fun h7 => ?_) (fun h7 => ?_)
    · exfalso; omega
    · refine z_aload_n (pc := 10) 0 gg dX7_reach_10 rfl rfl ?_
      refine z_get (pc := 11) 0 gg fl_X7_13 dX7_reach_11 rfl rfl ?_
      refine z_iload_n (pc := 14) 1 gg dX7_reach_14 rfl rfl ?_
      refine z_zald (pc := 15) 1 v.toNat gg dX7_reach_15 rfl (by omega) (by omega) (by decide) ?_
      refine z_if_ne (pc := 16) 35 gg dX7_reach_16 (by decide) ⟨by omega, by omega⟩ (fun h16 => ?_) (fun h16 => ?_)
      · exfalso; omega
      · refine z_aload_n (pc := 19) 0 gg dX7_reach_19 rfl rfl ?_
        refine z_get (pc := 20) 0 gg fl_X7_30 dX7_reach_20 rfl rfl ?_
        refine z_if_lt (pc := 23) 35 gg dX7_reach_23 (by decide) ⟨by omega, by omega⟩ (fun h23 => ?_) (fun h23 => ?_)
        · exfalso; omega
        · refine z_aload_n (pc := 26) 0 gg dX7_reach_26 rfl rfl ?_
          refine z_get (pc := 27) 0 gg fl_X7_30 dX7_reach_27 rfl rfl ?_
          refine z_bipush (pc := 30) gg dX7_reach_30 (by decide +kernel) ?_
          refine z_icmp_lt (pc := 32) 37 gg dX7_reach_32 (by decide) ⟨by omega, by omega⟩ ⟨by omega, by omega⟩ (fun h32 => ?_) (fun h32 => ?_)
          · refine z_aload_n (pc := 37) 0 gg dX7_reach_37 rfl rfl ?_
            refine z_get (pc := 38) 0 gg fl_X7_13 dX7_reach_38 rfl rfl ?_
            refine z_iload_n (pc := 41) 1 gg dX7_reach_41 rfl rfl ?_
            refine z_iconst (pc := 42) gg dX7_reach_42 ?_
            refine z_zast (pc := 43) 1 v.toNat [cO 7 h [.ref s0, .ref q0, .ref f0, .ref b0, .ref r0, .int (zI n)], cZ M s0 32 (zU fs v.toNat 1), cI M q0 32 fq, cI M f0 32 ff, cI M b0 32 fb, cI M r0 32 fr] gg dX7_reach_43 rfl (by omega) (by omega) (by decide) (by omega) rfl ?_
            refine z_aload_n (pc := 44) 0 gg dX7_reach_44 rfl rfl ?_
            refine z_get (pc := 45) 0 gg fl_X7_17 dX7_reach_45 rfl rfl ?_
            refine z_aload_n (pc := 48) 0 gg dX7_reach_48 rfl rfl ?_
            refine z_get (pc := 49) 0 gg fl_X7_30 dX7_reach_49 rfl rfl ?_
            refine z_iload_n (pc := 52) 1 gg dX7_reach_52 rfl rfl ?_
            refine z_iast (pc := 53) 2 n.toNat [cO 7 h [.ref s0, .ref q0, .ref f0, .ref b0, .ref r0, .int (zI n)], cZ M s0 32 (zU fs v.toNat 1), cI M q0 32 (zU fq n.toNat v), cI M f0 32 ff, cI M b0 32 fb, cI M r0 32 fr] gg dX7_reach_53 rfl (by omega) (by omega) (by decide) rfl ?_
            refine z_aload_n (pc := 54) 0 gg dX7_reach_54 rfl rfl ?_
            refine z_get (pc := 55) 0 gg fl_X7_21 dX7_reach_55 rfl rfl ?_
            refine z_aload_n (pc := 58) 0 gg dX7_reach_58 rfl rfl ?_
            refine z_get (pc := 59) 0 gg fl_X7_30 dX7_reach_59 rfl rfl ?_
            refine z_iload_n (pc := 62) 2 gg dX7_reach_62 rfl rfl ?_
            refine z_iast (pc := 63) 3 n.toNat [cO 7 h [.ref s0, .ref q0, .ref f0, .ref b0, .ref r0, .int (zI n)], cZ M s0 32 (zU fs v.toNat 1), cI M q0 32 (zU fq n.toNat v), cI M f0 32 (zU ff n.toNat f), cI M b0 32 fb, cI M r0 32 fr] gg dX7_reach_63 rfl (by omega) (by omega) (by decide) rfl ?_
            refine z_aload_n (pc := 64) 0 gg dX7_reach_64 rfl rfl ?_
            refine z_get (pc := 65) 0 gg fl_X7_24 dX7_reach_65 rfl rfl ?_
            refine z_aload_n (pc := 68) 0 gg dX7_reach_68 rfl rfl ?_
            refine z_get (pc := 69) 0 gg fl_X7_30 dX7_reach_69 rfl rfl ?_
            refine z_iload_n (pc := 72) 3 gg dX7_reach_72 rfl rfl ?_
            refine z_iast (pc := 73) 4 n.toNat [cO 7 h [.ref s0, .ref q0, .ref f0, .ref b0, .ref r0, .int (zI n)], cZ M s0 32 (zU fs v.toNat 1), cI M q0 32 (zU fq n.toNat v), cI M f0 32 (zU ff n.toNat f), cI M b0 32 (zU fb n.toNat e), cI M r0 32 fr] gg dX7_reach_73 rfl (by omega) (by omega) (by decide) rfl ?_
            refine z_aload_n (pc := 74) 0 gg dX7_reach_74 rfl rfl ?_
            refine z_dup (pc := 75) gg dX7_reach_75 rfl ?_
            refine z_get (pc := 76) 0 gg fl_X7_30 dX7_reach_76 rfl rfl ?_
            refine z_iconst (pc := 79) gg dX7_reach_79 ?_
            refine z_iadd (pc := 80) gg dX7_reach_80 ?_
            refine z_put (pc := 81) 0 [cO 7 h [.ref s0, .ref q0, .ref f0, .ref b0, .ref r0, .int (zI (n + 1))], cZ M s0 32 (zU fs v.toNat 1), cI M q0 32 (zU fq n.toNat v), cI M f0 32 (zU ff n.toNat f), cI M b0 32 (zU fb n.toNat e), cI M r0 32 fr] gg fp_X7_30 dX7_reach_81 rfl rfl rfl (Nat.le_of_ble_eq_true rfl) rfl ?_
            refine z_iconst (pc := 84) gg dX7_reach_84 ?_
            exact hret 1 () 85 _ _ _ (Nat.le_of_ble_eq_true rfl) (Nat.le_of_ble_eq_true rfl) dX7_reach_85 (zB01 (by omega)) (by omega)
          · exfalso; omega
set_option maxHeartbeats 4000000 in
set_option maxRecDepth 100000 in
theorem c_R_reach_old (M : KM) (h s0 q0 f0 b0 r0 : Nat) (n : Int) (fs fq ff fb fr : Nat → Int) (v f e : Int) (hv : 0 ≤ v ∧ v < 32) (hs : fs v.toNat = 1) : kCI M yX7_reach cX7_reach 4 .boolean 0 0 0 [cO 7 h [.ref s0, .ref q0, .ref f0, .ref b0, .ref r0, .int (zI n)], cZ M s0 32 fs, cI M q0 32 fq, cI M f0 32 ff, cI M b0 32 fb, cI M r0 32 fr] [.ref h, .int (zI v), .int (zI f), .int (zI e)] (fun z (u : Unit) => z = 0) (fun u => [cO 7 h [.ref s0, .ref q0, .ref f0, .ref b0, .ref r0, .int (zI n)], cZ M s0 32 fs, cI M q0 32 fq, cI M f0 32 ff, cI M b0 32 fb, cI M r0 32 fr]) := by
  refine kCI.of [(0, .ref h), (1, .int (zI v)), (2, .int (zI f)), (3, .int (zI e))] (by decide) (Nat.le_of_ble_eq_true rfl) rfl (fun E gg hret => ?_)
  refine z_iload_n (pc := 0) 1 gg dX7_reach_0 rfl rfl ?_
  refine z_if_lt (pc := 1) 35 gg dX7_reach_1 (by decide) ⟨by omega, by omega⟩ (fun h1 => ?_) (fun h1 => ?_)
  · exfalso; omega
  · refine z_iload_n (pc := 4) 1 gg dX7_reach_4 rfl rfl ?_
    refine z_bipush (pc := 5) gg dX7_reach_5 (by decide +kernel) ?_
    refine z_icmp_ge (pc := 7) 35 gg dX7_reach_7 (by decide) ⟨by omega, by omega⟩ ⟨by omega, by omega⟩ (fun h7 => ?_) (fun h7 => ?_)
    · exfalso; omega
    · refine z_aload_n (pc := 10) 0 gg dX7_reach_10 rfl rfl ?_
      refine z_get (pc := 11) 0 gg fl_X7_13 dX7_reach_11 rfl rfl ?_
      refine z_iload_n (pc := 14) 1 gg dX7_reach_14 rfl rfl ?_
      refine z_zald (pc := 15) 1 v.toNat gg dX7_reach_15 rfl (by omega) (by omega) (by decide) ?_
      refine z_if_ne (pc := 16) 35 gg dX7_reach_16 (by decide) ⟨by omega, by omega⟩ (fun h16 => ?_) (fun h16 => ?_)
      · refine z_iconst (pc := 35) gg dX7_reach_35 ?_
        exact hret 0 () 36 _ _ _ (Nat.le_of_ble_eq_true rfl) (Nat.le_of_ble_eq_true rfl) dX7_reach_36 (zB01 (by omega)) (by omega)
      · exfalso; omega
set_option maxHeartbeats 4000000 in
set_option maxRecDepth 100000 in
theorem c_R_writeRow (M : KM) (h s0 q0 f0 b0 r0 : Nat) (n : Int) (fs fq ff fb fr : Nat → Int) (a : Int) (fn : Nat → Nat) (L : Nat) (hl : 1 ≤ a ∧ a < 32) (hL : L ≤ 31) (he : anc fn a.toNat L = 0) (hc : ∀ j, j < L → 1 ≤ anc fn a.toNat j ∧ anc fn a.toNat j < 32 ∧ ff (anc fn a.toNat j) = (fn (anc fn a.toNat j) : Int)) : kCI M yX7_writeRow cX7_writeRow 5 .int 0 0 0 [cO 7 h [.ref s0, .ref q0, .ref f0, .ref b0, .ref r0, .int (zI n)], cZ M s0 32 fs, cI M q0 32 fq, cI M f0 32 ff, cI M b0 32 fb, cI M r0 32 fr] [.ref h, .int (zI a)] (fun z (u : Nat → Int) => z = L ∧ ∀ i, i < L → u i = fb (anc fn a.toNat (L - 1 - i))) (fun u => [cO 7 h [.ref s0, .ref q0, .ref f0, .ref b0, .ref r0, .int (zI n)], cZ M s0 32 fs, cI M q0 32 fq, cI M f0 32 ff, cI M b0 32 fb, cI M r0 32 u]) := by
  refine kCI.of [(0, .ref h), (1, .int (zI a))] (by decide) (Nat.le_of_ble_eq_true rfl) rfl (fun E gg hret => ?_)
  refine z_iconst (pc := 0) gg dX7_writeRow_0 ?_
  refine z_istore_n (pc := 1) [(2, .int (zI 0)), (0, .ref h), (1, .int (zI a))] gg dX7_writeRow_1 rfl (Nat.le_of_ble_eq_true rfl) rfl ?_
  refine z_iload_n (pc := 2) 2 gg dX7_writeRow_2 rfl rfl ?_
  refine z_istore_n (pc := 3) [(3, .int (zI a)), (2, .int (zI 0)), (0, .ref h), (1, .int (zI a))] gg dX7_writeRow_3 rfl (Nat.le_of_ble_eq_true rfl) rfl ?_
  have loop4 : ∀ (k4 : Nat) (p m : Int) (x : Nat → Int), (0 ≤ m ∧ m ≤ L) → (p = (anc fn a.toNat m.toNat : Int)) → (∀ j, j < m.toNat → x j = fb (anc fn a.toNat j)) → L - m.toNat < k4 → kV M E 5 0 0 [cO 7 h [.ref s0, .ref q0, .ref f0, .ref b0, .ref r0, .int (zI n)], cZ M s0 32 fs, cI M q0 32 fq, cI M f0 32 ff, cI M b0 32 fb, cI M r0 32 x] [(3, .int (zI p)), (2, .int (zI m)), (0, .ref h), (1, .int (zI a))] 4 [] := by
    intro k4
    induction k4 with
    | zero => intro p m x hm hp hx hm4; exact absurd hm4 (Nat.not_lt_zero _)
    | succ k4 ih4 =>
      intro p m x hm hp hx hm4
      have hpb : p < 32 := by
        rcases Nat.lt_or_ge m.toNat L with q | q
        · have := hc m.toNat q; omega
        · rw [hp, show m.toNat = L by omega, he]; omega
      have hpz : m = L → p = 0 := fun q => by rw [hp, show m.toNat = L by omega, he]; rfl
      refine z_iload_n (pc := 4) 0 gg dX7_writeRow_4 rfl rfl ?_
      refine z_if_le (pc := 5) 45 gg dX7_writeRow_5 (by decide) ⟨by omega, by omega⟩ (fun h5 => ?_) (fun h5 => ?_)
      · have hmL : m = L := by
          by_cases q : m < L
          · have := hc m.toNat (by omega); omega
          · omega
        refine z_iconst (pc := 45) gg dX7_writeRow_45 ?_
        refine z_istore_n (pc := 46) [(3, .int (zI 0)), (2, .int (zI m)), (0, .ref h), (1, .int (zI a))] gg dX7_writeRow_46 rfl (Nat.le_of_ble_eq_true rfl) rfl ?_
        have loop47 : ∀ (k47 : Nat) (k : Int) (y : Nat → Int), (0 ≤ k ∧ k ≤ m / 2) → (∀ j, j < L → y j = if j < k.toNat ∨ L - 1 - j < k.toNat then x (L - 1 - j) else x j) → L - k.toNat < k47 → kV M E 5 0 0 [cO 7 h [.ref s0, .ref q0, .ref f0, .ref b0, .ref r0, .int (zI n)], cZ M s0 32 fs, cI M q0 32 fq, cI M f0 32 ff, cI M b0 32 fb, cI M r0 32 y] [(3, .int (zI k)), (2, .int (zI m)), (0, .ref h), (1, .int (zI a))] 47 [] := by
          intro k47
          induction k47 with
          | zero => intro k y hk hy hm47; exact absurd hm47 (Nat.not_lt_zero _)
          | succ k47 ih47 =>
            intro k y hk hy hm47
            refine z_iload_n (pc := 47) 0 gg dX7_writeRow_47 rfl rfl ?_
            refine z_iload_n (pc := 48) 1 gg dX7_writeRow_48 rfl rfl ?_
            refine z_iconst (pc := 49) gg dX7_writeRow_49 ?_
            refine z_idivn (pc := 50) gg dX7_writeRow_50 (by omega) (by omega) (by omega) (by omega) ?_
            refine z_icmp_ge (pc := 51) 96 gg dX7_writeRow_51 (by decide) ⟨by omega, by omega⟩ ⟨by omega, by omega⟩ (fun h51 => ?_) (fun h51 => ?_)
            · refine z_iload_n (pc := 96) 1 gg dX7_writeRow_96 rfl rfl ?_
              exact hret m y 97 _ _ _ (Nat.le_of_ble_eq_true rfl) (Nat.le_of_ble_eq_true rfl) dX7_writeRow_97 rfl ⟨hmL, fun i hi => by
            rw [hy i hi]
            by_cases e : i < k.toNat ∨ L - 1 - i < k.toNat
            · rw [if_pos e, hx _ (by omega)]
            · have : L - 1 - i = i := by omega
              rw [if_neg e, hx _ (by omega), this]⟩
            · refine z_aload_n (pc := 54) 2 gg dX7_writeRow_54 rfl rfl ?_
              refine z_get (pc := 55) 0 gg fl_X7_27 dX7_writeRow_55 rfl rfl ?_
              refine z_iload_n (pc := 58) 0 gg dX7_writeRow_58 rfl rfl ?_
              refine z_iald (pc := 59) 5 k.toNat gg dX7_writeRow_59 rfl (by omega) (by omega) (by decide) ?_
              refine z_istore (pc := 60) [(4, .int (zI (y k.toNat))), (3, .int (zI k)), (2, .int (zI m)), (0, .ref h), (1, .int (zI a))] gg dX7_writeRow_60 (Nat.le_of_ble_eq_true rfl) rfl ?_
              refine z_aload_n (pc := 62) 3 gg dX7_writeRow_62 rfl rfl ?_
              refine z_get (pc := 63) 0 gg fl_X7_27 dX7_writeRow_63 rfl rfl ?_
              refine z_iload_n (pc := 66) 1 gg dX7_writeRow_66 rfl rfl ?_
              refine z_aload_n (pc := 67) 3 gg dX7_writeRow_67 rfl rfl ?_
              refine z_get (pc := 68) 0 gg fl_X7_27 dX7_writeRow_68 rfl rfl ?_
              refine z_iload_n (pc := 71) 2 gg dX7_writeRow_71 rfl rfl ?_
              refine z_iconst (pc := 72) gg dX7_writeRow_72 ?_
              refine z_isub (pc := 73) gg dX7_writeRow_73 ?_
              refine z_iload_n (pc := 74) 1 gg dX7_writeRow_74 rfl rfl ?_
              refine z_isub (pc := 75) gg dX7_writeRow_75 ?_
              refine z_iald (pc := 76) 5 ((m.toNat - 1) - k.toNat) gg dX7_writeRow_76 rfl (by omega) (by omega) (by decide) ?_
              refine z_iast (pc := 77) 5 k.toNat [cO 7 h [.ref s0, .ref q0, .ref f0, .ref b0, .ref r0, .int (zI n)], cZ M s0 32 fs, cI M q0 32 fq, cI M f0 32 ff, cI M b0 32 fb, cI M r0 32 (zU y k.toNat (y ((m.toNat - 1) - k.toNat)))] gg dX7_writeRow_77 rfl (by omega) (by omega) (by decide) rfl ?_
              refine z_aload_n (pc := 78) 3 gg dX7_writeRow_78 rfl rfl ?_
              refine z_get (pc := 79) 0 gg fl_X7_27 dX7_writeRow_79 rfl rfl ?_
              refine z_iload_n (pc := 82) 2 gg dX7_writeRow_82 rfl rfl ?_
              refine z_iconst (pc := 83) gg dX7_writeRow_83 ?_
              refine z_isub (pc := 84) gg dX7_writeRow_84 ?_
              refine z_iload_n (pc := 85) 1 gg dX7_writeRow_85 rfl rfl ?_
              refine z_isub (pc := 86) gg dX7_writeRow_86 ?_
              refine z_iload (pc := 87) 0 gg dX7_writeRow_87 rfl ?_
              refine z_iast (pc := 89) 5 ((m.toNat - 1) - k.toNat) [cO 7 h [.ref s0, .ref q0, .ref f0, .ref b0, .ref r0, .int (zI n)], cZ M s0 32 fs, cI M q0 32 fq, cI M f0 32 ff, cI M b0 32 fb, cI M r0 32 (zU (zU y k.toNat (y ((m.toNat - 1) - k.toNat))) ((m.toNat - 1) - k.toNat) (y k.toNat))] gg dX7_writeRow_89 rfl (by omega) (by omega) (by decide) rfl ?_
              refine z_iinc (pc := 90) 1 [(3, .int (zI (k + 1))), (4, .int (zI (y k.toNat))), (2, .int (zI m)), (0, .ref h), (1, .int (zI a))] gg dX7_writeRow_90 rfl (Nat.le_of_ble_eq_true rfl) rfl ?_
              refine z_goto (pc := 93) 47 gg dX7_writeRow_93 (by decide) ?_
              refine z_lv [(3, .int (zI (k + 1))), (2, .int (zI m)), (0, .ref h), (1, .int (zI a))] [0, 2, 3, 4] rfl ?_
              exact ih47 (k + 1) (zU (zU y k.toNat (y (m.toNat - 1 - k.toNat))) (m.toNat - 1 - k.toNat) (y k.toNat)) (by omega) (fun j hj => by
          have y1 := hy k.toNat (by omega)
          have y2 := hy (m.toNat - 1 - k.toNat) (by omega)
          rw [if_neg (by omega)] at y1 y2
          by_cases e1 : j = m.toNat - 1 - k.toNat
          · rw [e1, zU_s, y1, if_pos (by omega)]; congr 1; omega
          · rw [zU_n _ _ e1]
            by_cases e2 : j = k.toNat
            · rw [e2, zU_s, y2, if_pos (by omega)]; congr 1; omega
            · rw [zU_n _ _ e2, hy j hj]
              by_cases e3 : j < k.toNat ∨ L - 1 - j < k.toNat
              · rw [if_pos e3, if_pos (by omega)]
              · rw [if_neg e3, if_neg (by omega)]) (by omega)
        exact loop47 _ 0 x (by omega) (fun j hj => by rw [if_neg (by omega)]) (Nat.lt_succ_self _)
      · refine z_iload_n (pc := 8) 0 gg dX7_writeRow_8 rfl rfl ?_
        refine z_bipush (pc := 9) gg dX7_writeRow_9 (by decide +kernel) ?_
        refine z_icmp_ge (pc := 11) 45 gg dX7_writeRow_11 (by decide) ⟨by omega, by omega⟩ ⟨by omega, by omega⟩ (fun h11 => ?_) (fun h11 => ?_)
        · exfalso; omega
        · refine z_iload_n (pc := 14) 1 gg dX7_writeRow_14 rfl rfl ?_
          refine z_bipush (pc := 15) gg dX7_writeRow_15 (by decide +kernel) ?_
          refine z_icmp_ge (pc := 17) 45 gg dX7_writeRow_17 (by decide) ⟨by omega, by omega⟩ ⟨by omega, by omega⟩ (fun h17 => ?_) (fun h17 => ?_)
          · exfalso; omega
          · refine z_aload_n (pc := 20) 2 gg dX7_writeRow_20 rfl rfl ?_
            refine z_get (pc := 21) 0 gg fl_X7_27 dX7_writeRow_21 rfl rfl ?_
            refine z_iload_n (pc := 24) 1 gg dX7_writeRow_24 rfl rfl ?_
            refine z_aload_n (pc := 25) 2 gg dX7_writeRow_25 rfl rfl ?_
            refine z_get (pc := 26) 0 gg fl_X7_24 dX7_writeRow_26 rfl rfl ?_
            refine z_iload_n (pc := 29) 0 gg dX7_writeRow_29 rfl rfl ?_
            refine z_iald (pc := 30) 4 p.toNat gg dX7_writeRow_30 rfl (by omega) (by omega) (by decide) ?_
            refine z_iast (pc := 31) 5 m.toNat [cO 7 h [.ref s0, .ref q0, .ref f0, .ref b0, .ref r0, .int (zI n)], cZ M s0 32 fs, cI M q0 32 fq, cI M f0 32 ff, cI M b0 32 fb, cI M r0 32 (zU x m.toNat (fb p.toNat))] gg dX7_writeRow_31 rfl (by omega) (by omega) (by decide) rfl ?_
            refine z_iinc (pc := 32) 1 [(2, .int (zI (m + 1))), (3, .int (zI p)), (0, .ref h), (1, .int (zI a))] gg dX7_writeRow_32 rfl (Nat.le_of_ble_eq_true rfl) rfl ?_
            refine z_aload_n (pc := 35) 2 gg dX7_writeRow_35 rfl rfl ?_
            refine z_get (pc := 36) 0 gg fl_X7_21 dX7_writeRow_36 rfl rfl ?_
            refine z_iload_n (pc := 39) 1 gg dX7_writeRow_39 rfl rfl ?_
            refine z_iald (pc := 40) 3 p.toNat gg dX7_writeRow_40 rfl (by omega) (by omega) (by decide) ?_
            refine z_istore_n (pc := 41) [(3, .int (zI (ff p.toNat))), (2, .int (zI (m + 1))), (0, .ref h), (1, .int (zI a))] gg dX7_writeRow_41 rfl (Nat.le_of_ble_eq_true rfl) rfl ?_
            refine z_goto (pc := 42) 4 gg dX7_writeRow_42 (by decide) ?_
            exact ih4 (ff p.toNat) (m + 1) (zU x m.toNat (fb p.toNat)) (by omega) (by rw [show (m + 1).toNat = m.toNat + 1 by omega]; have q := hc m.toNat (by omega); rw [show p.toNat = anc fn a.toNat m.toNat by omega, q.2.2]; rfl) (zU_eq (g := fun j => fb (anc fn a.toNat j)) (by omega) hx (by rw [show p.toNat = anc fn a.toNat m.toNat by omega])) (by omega)
  exact loop4 _ a 0 fr (by omega) (by show a = (a.toNat : Int); omega) (fun j hj => absurd hj (by omega)) (Nat.lt_succ_self _)
set_option maxHeartbeats 4000000 in
set_option maxRecDepth 100000 in
theorem c_R_find (M : KM) (h s0 q0 f0 b0 r0 : Nat) (n : Int) (fs fq ff fb fr : Nat → Int) (h2 l2 g2 w2 : Nat) (dl df dw : Nat → Int) (hdl : ∀ j, j < 32 → 0 ≤ dl j ∧ dl j < 8) (hdf : ∀ j, j < 8 → df j = 0 ∨ df j = 1) (hdw : ∀ j, j < 8 → dw j = 0 ∨ dw j = 1) : kCI M yX7_find cX7_find 9 .int 2 0 0 [cO 7 h [.ref s0, .ref q0, .ref f0, .ref b0, .ref r0, .int (zI n)], cZ M s0 32 fs, cI M q0 32 fq, cI M f0 32 ff, cI M b0 32 fb, cI M r0 32 fr, cO 2 h2 [.ref l2, .ref g2, .ref w2], cI M l2 32 dl, cZ M g2 8 df, cZ M w2 8 dw] [.ref h, .ref h2] (fun z (u : Int × (Nat → Int) × (Nat → Int) × (Nat → Int) × (Nat → Int) × (Nat → Int)) => (z = -1 ∧ noRow (nxD dl dw) (bdD df)) ∨ (∃ (L : Nat) (ev : Nat → Nat), z = L ∧ L ≤ 31 ∧ isRow (nxD dl dw) (bdD df) L ev ∧ ∀ i, i < L → u.2.2.2.2.2 i = (ev i : Int))) (fun u => [cO 7 h [.ref s0, .ref q0, .ref f0, .ref b0, .ref r0, .int (zI u.1)], cZ M s0 32 u.2.1, cI M q0 32 u.2.2.1, cI M f0 32 u.2.2.2.1, cI M b0 32 u.2.2.2.2.1, cI M r0 32 u.2.2.2.2.2, cO 2 h2 [.ref l2, .ref g2, .ref w2], cI M l2 32 dl, cZ M g2 8 df, cZ M w2 8 dw]) := by
  refine kCI.of [(0, .ref h), (1, .ref h2)] (by decide) (Nat.le_of_ble_eq_true rfl) rfl (fun E gg hret => ?_)
  refine z_iconst (pc := 0) gg dX7_find_0 ?_
  refine z_istore_n (pc := 1) [(2, .int (zI 0)), (0, .ref h), (1, .ref h2)] gg dX7_find_1 rfl (Nat.le_of_ble_eq_true rfl) rfl ?_
  have loop2 : ∀ (k2 : Nat) (i : Int) (x : Nat → Int), (0 ≤ i ∧ i ≤ 32) → (∀ j, j < i.toNat → x j = 0) → 32 - i.toNat < k2 → kV M E 9 0 0 [cO 7 h [.ref s0, .ref q0, .ref f0, .ref b0, .ref r0, .int (zI n)], cZ M s0 32 x, cI M q0 32 fq, cI M f0 32 ff, cI M b0 32 fb, cI M r0 32 fr, cO 2 h2 [.ref l2, .ref g2, .ref w2], cI M l2 32 dl, cZ M g2 8 df, cZ M w2 8 dw] [(2, .int (zI i)), (0, .ref h), (1, .ref h2)] 2 [] := by
    intro k2
    induction k2 with
    | zero => intro i x hi hx hm2; exact absurd hm2 (Nat.not_lt_zero _)
    | succ k2 ih2 =>
      intro i x hi hx hm2
      refine z_iload_n (pc := 2) 0 gg dX7_find_2 rfl rfl ?_
      refine z_bipush (pc := 3) gg dX7_find_3 (by decide +kernel) ?_
      refine z_icmp_ge (pc := 5) 21 gg dX7_find_5 (by decide) ⟨by omega, by omega⟩ ⟨by omega, by omega⟩ (fun h5 => ?_) (fun h5 => ?_)
      · refine z_aload_n (pc := 21) 1 gg dX7_find_21 rfl rfl ?_
        refine z_iconst (pc := 22) gg dX7_find_22 ?_
        refine z_put (pc := 23) 0 [cO 7 h [.ref s0, .ref q0, .ref f0, .ref b0, .ref r0, .int (zI 0)], cZ M s0 32 x, cI M q0 32 fq, cI M f0 32 ff, cI M b0 32 fb, cI M r0 32 fr, cO 2 h2 [.ref l2, .ref g2, .ref w2], cI M l2 32 dl, cZ M g2 8 df, cZ M w2 8 dw] gg fp_X7_30 dX7_find_23 rfl rfl rfl (Nat.le_of_ble_eq_true rfl) rfl ?_
        refine z_aload_n (pc := 26) 1 gg dX7_find_26 rfl rfl ?_
        refine z_iconst (pc := 27) gg dX7_find_27 ?_
        refine z_iconst (pc := 28) gg dX7_find_28 ?_
        refine z_iconst (pc := 29) gg dX7_find_29 ?_
        refine z_callVi (pc := 30) (wr := [cO 2 h2 [.ref l2, .ref g2, .ref w2], cI M l2 32 dl, cZ M g2 8 df, cZ M w2 8 dw]) (As := [.int (zI 0), .int (zI (-1)), .int (zI (-1))]) (st := []) [0, 1, 2, 3, 4, 5] [6, 7, 8, 9] [4, 5, 6, 7, 8, 9, 0, 1, 2, 3] (fun u => [cO 7 h [.ref s0, .ref q0, .ref f0, .ref b0, .ref r0, .int (zI ((0 : Int) + 1))], cZ M s0 32 (zU x (0 : Int).toNat 1), cI M q0 32 (zU fq (0 : Int).toNat (0 : Int)), cI M f0 32 (zU ff (0 : Int).toNat (-1 : Int)), cI M b0 32 (zU fb (0 : Int).toNat (-1 : Int)), cI M r0 32 fr, cO 2 h2 [.ref l2, .ref g2, .ref w2], cI M l2 32 dl, cZ M g2 8 df, cZ M w2 8 dw]) gg (c_R_reach_new M h s0 q0 f0 b0 r0 (0 : Int) x fq ff fb fr (0 : Int) (-1 : Int) (-1 : Int) (by first | assumption | omega | exact ⟨by omega, by omega⟩) (by first | assumption | omega | exact ⟨by omega, by omega⟩) (hx 0 (by omega))) yv_7_reach ml_X7_34 dX7_find_30 (by decide) (Nat.le_of_ble_eq_true rfl) (Nat.le_of_ble_eq_true rfl) (Nat.le_of_ble_eq_true rfl) rfl rfl rfl rfl (by decide) rfl (fun _ => rfl) rfl rfl rfl (fun z30 u30 hz30 => ?_)
        subst hz30
        refine z_pop (pc := 33) gg dX7_find_33 rfl ?_
        refine z_iconst (pc := 34) gg dX7_find_34 ?_
        refine z_istore_n (pc := 35) [(2, .int (zI 0)), (0, .ref h), (1, .ref h2)] gg dX7_find_35 rfl (Nat.le_of_ble_eq_true rfl) rfl ?_
        have loop36 : ∀ (k36 : Nat) (p : Int) (n1 : Int) (gs gq gf gb : Nat → Int), (0 ≤ p ∧ p ≤ n1) → (∃ qn fn bn dp : Nat → Nat, QI dl dw df n1 gs gq gf gb qn fn bn dp (4 * p.toNat)) → 32 - p.toNat < k36 → kV M E 9 0 0 [cO 7 h [.ref s0, .ref q0, .ref f0, .ref b0, .ref r0, .int (zI n1)], cZ M s0 32 gs, cI M q0 32 gq, cI M f0 32 gf, cI M b0 32 gb, cI M r0 32 fr, cO 2 h2 [.ref l2, .ref g2, .ref w2], cI M l2 32 dl, cZ M g2 8 df, cZ M w2 8 dw] [(2, .int (zI p)), (0, .ref h), (1, .ref h2)] 36 [] := by
          intro k36
          induction k36 with
          | zero => intro p n1 gs gq gf gb hp hQ0 hm36; exact absurd hm36 (Nat.not_lt_zero _)
          | succ k36 ih36 =>
            intro p n1 gs gq gf gb hp hQ0 hm36
            obtain ⟨qn, fn, bn, dp, hQ0⟩ := hQ0
            have hn32 := hQ0.2.1
            refine z_iload_n (pc := 36) 0 gg dX7_find_36 rfl rfl ?_
            refine z_aload_n (pc := 37) 1 gg dX7_find_37 rfl rfl ?_
            refine z_get (pc := 38) 0 gg fl_X7_30 dX7_find_38 rfl rfl ?_
            refine z_icmp_ge (pc := 41) 161 gg dX7_find_41 (by decide) ⟨by omega, by omega⟩ ⟨by omega, by omega⟩ (fun h41 => ?_) (fun h41 => ?_)
            · refine z_iconst (pc := 161) gg dX7_find_161 ?_
              exact hret (-1) (n1, gs, gq, gf, gb, fr) 162 _ _ _ (Nat.le_of_ble_eq_true rfl) (Nat.le_of_ble_eq_true rfl) dX7_find_162 rfl (Or.inl ⟨rfl, QI_end hQ0 (by omega)⟩)
            · refine z_iload_n (pc := 44) 0 gg dX7_find_44 rfl rfl ?_
              refine z_bipush (pc := 45) gg dX7_find_45 (by decide +kernel) ?_
              refine z_icmp_ge (pc := 47) 161 gg dX7_find_47 (by decide) ⟨by omega, by omega⟩ ⟨by omega, by omega⟩ (fun h47 => ?_) (fun h47 => ?_)
              · exfalso; omega
              · have hQv := hQ0.2.2.1 p.toNat (by omega)
                have hQl := hQ0.1.1.2.2.2 p.toNat (by omega)
                obtain ⟨Q, hQe⟩ : ∃ Q, Q = qn p.toNat := ⟨_, rfl⟩
                rw [← hQe] at hQv hQl
                refine z_aload_n (pc := 50) 1 gg dX7_find_50 rfl rfl ?_
                refine z_get (pc := 51) 0 gg fl_X7_17 dX7_find_51 rfl rfl ?_
                refine z_iload_n (pc := 54) 0 gg dX7_find_54 rfl rfl ?_
                refine z_iald (pc := 55) 2 p.toNat gg dX7_find_55 rfl (by omega) (by omega) (by decide) ?_
                refine z_iconst (pc := 56) gg dX7_find_56 ?_
                refine z_idivn (pc := 57) gg dX7_find_57 (by omega) (by omega) (by omega) (by omega) ?_
                refine z_top (fun x3 h_x3 => ?_)
                refine z_istore_n (pc := 58) [(3, .int (zI x3)), (2, .int (zI p)), (0, .ref h), (1, .ref h2)] gg dX7_find_58 rfl (Nat.le_of_ble_eq_true rfl) rfl ?_
                refine z_aload_n (pc := 59) 2 gg dX7_find_59 rfl rfl ?_
                refine z_get (pc := 60) 0 gg fl_X7_17 dX7_find_60 rfl rfl ?_
                refine z_iload_n (pc := 63) 1 gg dX7_find_63 rfl rfl ?_
                refine z_iald (pc := 64) 2 p.toNat gg dX7_find_64 rfl (by omega) (by omega) (by decide) ?_
                refine z_iconst (pc := 65) gg dX7_find_65 ?_
                refine z_iremn (pc := 66) gg dX7_find_66 (by omega) (by omega) (by omega) (by omega) ?_
                refine z_top (fun x4 h_x4 => ?_)
                refine z_istore (pc := 67) [(4, .int (zI x4)), (3, .int (zI x3)), (2, .int (zI p)), (0, .ref h), (1, .ref h2)] gg dX7_find_67 (Nat.le_of_ble_eq_true rfl) rfl ?_
                refine z_iconst (pc := 69) gg dX7_find_69 ?_
                refine z_istore (pc := 70) [(5, .int (zI 0)), (4, .int (zI x4)), (3, .int (zI x3)), (2, .int (zI p)), (0, .ref h), (1, .ref h2)] gg dX7_find_70 (Nat.le_of_ble_eq_true rfl) rfl ?_
                have loop72 : ∀ (k72 : Nat) (e : Int) (n1 : Int) (gs gq gf gb : Nat → Int), (0 ≤ e ∧ e ≤ 4) → (0 ≤ p ∧ p < n1) → (∃ qn fn bn dp : Nat → Nat, QI dl dw df n1 gs gq gf gb qn fn bn dp (4 * p.toNat + e.toNat) ∧ qn p.toNat = Q) → 4 - e.toNat < k72 → kV M E 9 0 0 [cO 7 h [.ref s0, .ref q0, .ref f0, .ref b0, .ref r0, .int (zI n1)], cZ M s0 32 gs, cI M q0 32 gq, cI M f0 32 gf, cI M b0 32 gb, cI M r0 32 fr, cO 2 h2 [.ref l2, .ref g2, .ref w2], cI M l2 32 dl, cZ M g2 8 df, cZ M w2 8 dw] [(5, .int (zI e)), (4, .int (zI x4)), (3, .int (zI x3)), (2, .int (zI p)), (0, .ref h), (1, .ref h2)] 72 [] := by
                  intro k72
                  induction k72 with
                  | zero => intro e n1 gs gq gf gb he0 hpn hQ1 hm72; exact absurd hm72 (Nat.not_lt_zero _)
                  | succ k72 ih72 =>
                    intro e n1 gs gq gf gb he0 hpn hQ1 hm72
                    obtain ⟨qn, fn, bn, dp, hQ, hQq⟩ := hQ1
                    have hn32 := hQ.2.1
                    refine z_iload (pc := 72) 0 gg dX7_find_72 rfl ?_
                    refine z_iconst (pc := 74) gg dX7_find_74 ?_
                    refine z_icmp_ge (pc := 75) 155 gg dX7_find_75 (by decide) ⟨by omega, by omega⟩ ⟨by omega, by omega⟩ (fun h75 => ?_) (fun h75 => ?_)
                    · refine z_iinc (pc := 155) 3 [(2, .int (zI (p + 1))), (5, .int (zI e)), (4, .int (zI x4)), (3, .int (zI x3)), (0, .ref h), (1, .ref h2)] gg dX7_find_155 rfl (Nat.le_of_ble_eq_true rfl) rfl ?_
                      refine z_goto (pc := 158) 36 gg dX7_find_158 (by decide) ?_
                      refine z_lv [(2, .int (zI (p + 1))), (0, .ref h), (1, .ref h2)] [0, 4, 5] rfl ?_
                      exact ih36 (p + 1) n1 gs gq gf gb (by omega) ⟨qn, fn, bn, dp, by rw [show 4 * (p + 1).toNat = 4 * p.toNat + e.toNat by omega]; exact hQ⟩ (by omega)
                    · have he : 0 ≤ e ∧ e < 4 := by omega
                      have hx3 : x3.toNat = Q / 4 := by omega
                      have hx4 : x4 = ((Q % 4 : Nat) : Int) := by omega
                      refine z_aload_n (pc := 78) 5 gg dX7_find_78 rfl rfl ?_
                      refine z_iload_n (pc := 79) 2 gg dX7_find_79 rfl rfl ?_
                      refine z_iload (pc := 80) 0 gg dX7_find_80 rfl ?_
                      refine z_callVi (pc := 82) (wr := [cO 7 h [.ref s0, .ref q0, .ref f0, .ref b0, .ref r0, .int (zI n1)], cZ M s0 32 gs, cI M q0 32 gq, cI M f0 32 gf, cI M b0 32 gb, cI M r0 32 fr]) (As := [.int (zI x3), .int (zI e)]) (st := []) [6, 7, 8, 9] [0, 1, 2, 3, 4, 5] [0, 1, 2, 3, 4, 5, 6, 7, 8, 9] (fun u => [cO 7 h [.ref s0, .ref q0, .ref f0, .ref b0, .ref r0, .int (zI n1)], cZ M s0 32 gs, cI M q0 32 gq, cI M f0 32 gf, cI M b0 32 gb, cI M r0 32 fr, cO 2 h2 [.ref l2, .ref g2, .ref w2], cI M l2 32 dl, cZ M g2 8 df, cZ M w2 8 dw]) gg (c_D_after M h2 l2 g2 w2 dl df dw x3 e (by first | assumption | omega | exact ⟨by omega, by omega⟩) (by first | assumption | omega | exact ⟨by omega, by omega⟩)) yv_2_after ml_X7_38 dX7_find_82 (by decide) (Nat.le_of_ble_eq_true rfl) (Nat.le_of_ble_eq_true rfl) (Nat.le_of_ble_eq_true rfl) rfl rfl rfl rfl (by decide) rfl (fun _ => rfl) rfl rfl rfl (fun z82 u82 hz82 => ?_)
                      have ht2 := hdl (x3.toNat * 4 + e.toNat) (by omega)
                      rw [← hz82] at ht2
                      rw [hx3] at hz82
                      refine z_istore (pc := 85) [(6, .int (zI z82)), (5, .int (zI e)), (4, .int (zI x4)), (3, .int (zI x3)), (2, .int (zI p)), (0, .ref h), (1, .ref h2)] gg dX7_find_85 (Nat.le_of_ble_eq_true rfl) rfl ?_
                      refine z_iload (pc := 87) 2 gg dX7_find_87 rfl ?_
                      refine z_iload (pc := 89) 1 gg dX7_find_89 rfl ?_
                      refine z_aload_n (pc := 91) 6 gg dX7_find_91 rfl rfl ?_
                      refine z_iload (pc := 92) 0 gg dX7_find_92 rfl ?_
                      refine z_callVi (pc := 94) (wr := [cO 7 h [.ref s0, .ref q0, .ref f0, .ref b0, .ref r0, .int (zI n1)], cZ M s0 32 gs, cI M q0 32 gq, cI M f0 32 gf, cI M b0 32 gb, cI M r0 32 fr]) (As := [.int (zI z82)]) (st := [.int (zI e), .int (zI x4)]) [6, 7, 8, 9] [0, 1, 2, 3, 4, 5] [0, 1, 2, 3, 4, 5, 6, 7, 8, 9] (fun u => [cO 7 h [.ref s0, .ref q0, .ref f0, .ref b0, .ref r0, .int (zI n1)], cZ M s0 32 gs, cI M q0 32 gq, cI M f0 32 gf, cI M b0 32 gb, cI M r0 32 fr, cO 2 h2 [.ref l2, .ref g2, .ref w2], cI M l2 32 dl, cZ M g2 8 df, cZ M w2 8 dw]) gg (c_D_waters M h2 l2 g2 w2 dl df dw z82 (by first | assumption | omega | exact ⟨by omega, by omega⟩) hdw) yv_2_waters ml_X7_42 dX7_find_94 (by decide) (Nat.le_of_ble_eq_true rfl) (Nat.le_of_ble_eq_true rfl) (Nat.le_of_ble_eq_true rfl) rfl rfl rfl rfl (by decide) rfl (fun _ => rfl) rfl rfl rfl (fun z94 u94 hz94 => ?_)
                      have hw2 := hdw z82.toNat (by omega)
                      rw [← hz94] at hw2
                      refine z_callS (pc := 97) (As := [.int (zI x4), .int (zI e), .int (zI z94)]) (st := []) gg (c_R_dangerAfter M x4 e z94 (by first | assumption | omega | exact ⟨by omega, by omega⟩) (by first | assumption | omega | exact ⟨by omega, by omega⟩) (by first | assumption | omega | exact ⟨by omega, by omega⟩)) ys_7_dangerAfter ml_X7_46 dX7_find_97 (by decide) (Nat.le_of_ble_eq_true rfl) (Nat.le_of_ble_eq_true rfl) (Nat.le_of_ble_eq_true rfl) rfl rfl (fun z97 u97 hz97 => ?_)
                      obtain ⟨hv1, hv2, hv3, hv4, hv5, hv6⟩ := nxD_of (Q := Q) (e := e.toNat) hz82 ht2 hz94 hw2 hQl (d := z97) (by omega)
                      rw [← hQq] at hv1 hv4 hv5 hv6
                      refine z_istore (pc := 100) [(7, .int (zI z97)), (6, .int (zI z82)), (5, .int (zI e)), (4, .int (zI x4)), (3, .int (zI x3)), (2, .int (zI p)), (0, .ref h), (1, .ref h2)] gg dX7_find_100 (Nat.le_of_ble_eq_true rfl) rfl ?_
                      have hs8 := hQ.2.2.2.2 (z82 * 4 + z97).toNat (by omega)
                      rcases (show gs (z82 * 4 + z97).toNat = 0 ∨ gs (z82 * 4 + z97).toNat = 1 by rcases hs8 with q | q <;> omega) with hs9 | hs9
                      · refine z_aload_n (pc := 102) 6 gg dX7_find_102 rfl rfl ?_
                        refine z_iload (pc := 103) 1 gg dX7_find_103 rfl ?_
                        refine z_iconst (pc := 105) gg dX7_find_105 ?_
                        refine z_imul (pc := 106) gg dX7_find_106 ?_
                        refine z_iload (pc := 107) 0 gg dX7_find_107 rfl ?_
                        refine z_iadd (pc := 109) gg dX7_find_109 ?_
                        refine z_iload_n (pc := 110) 5 gg dX7_find_110 rfl rfl ?_
                        refine z_iload (pc := 111) 2 gg dX7_find_111 rfl ?_
                        refine z_callVi (pc := 113) (wr := [cO 2 h2 [.ref l2, .ref g2, .ref w2], cI M l2 32 dl, cZ M g2 8 df, cZ M w2 8 dw]) (As := [.int (zI ((z82 * 4) + z97)), .int (zI p), .int (zI e)]) (st := []) [0, 1, 2, 3, 4, 5] [6, 7, 8, 9] [4, 5, 6, 7, 8, 9, 0, 1, 2, 3] (fun u => [cO 7 h [.ref s0, .ref q0, .ref f0, .ref b0, .ref r0, .int (zI (n1 + 1))], cZ M s0 32 (zU gs ((z82 * 4) + z97).toNat 1), cI M q0 32 (zU gq n1.toNat ((z82 * 4) + z97)), cI M f0 32 (zU gf n1.toNat p), cI M b0 32 (zU gb n1.toNat e), cI M r0 32 fr, cO 2 h2 [.ref l2, .ref g2, .ref w2], cI M l2 32 dl, cZ M g2 8 df, cZ M w2 8 dw]) gg (c_R_reach_new M h s0 q0 f0 b0 r0 n1 gs gq gf gb fr ((z82 * 4) + z97) p e ⟨by omega, QI_room hQ (v := (z82 * 4 + z97).toNat) (by omega) hs9⟩ (by first | assumption | omega | exact ⟨by omega, by omega⟩) hs9) yv_7_reach ml_X7_34 dX7_find_113 (by decide) (Nat.le_of_ble_eq_true rfl) (Nat.le_of_ble_eq_true rfl) (Nat.le_of_ble_eq_true rfl) rfl rfl rfl rfl (by decide) rfl (fun _ => rfl) rfl rfl rfl (fun z113 u113 hz113 => ?_)
                        refine z_istore (pc := 116) [(8, .int (zI z113)), (7, .int (zI z97)), (6, .int (zI z82)), (5, .int (zI e)), (4, .int (zI x4)), (3, .int (zI x3)), (2, .int (zI p)), (0, .ref h), (1, .ref h2)] gg dX7_find_116 (Nat.le_of_ble_eq_true rfl) rfl ?_
                        refine z_iload (pc := 118) 0 gg dX7_find_118 rfl ?_
                        refine z_if_eq (pc := 120) 149 gg dX7_find_120 (by decide) ⟨by omega, by omega⟩ (fun h120 => ?_) (fun h120 => ?_)
                        · exfalso; omega
                        · refine z_iload (pc := 123) 1 gg dX7_find_123 rfl ?_
                          refine z_iconst (pc := 125) gg dX7_find_125 ?_
                          refine z_icmp_lt (pc := 126) 149 gg dX7_find_126 (by decide) ⟨by omega, by omega⟩ ⟨by omega, by omega⟩ (fun h126 => ?_) (fun h126 => ?_)
                          · refine z_iinc (pc := 149) 3 [(5, .int (zI (e + 1))), (8, .int (zI z113)), (7, .int (zI z97)), (6, .int (zI z82)), (4, .int (zI x4)), (3, .int (zI x3)), (2, .int (zI p)), (0, .ref h), (1, .ref h2)] gg dX7_find_149 rfl (Nat.le_of_ble_eq_true rfl) rfl ?_
                            refine z_goto (pc := 152) 72 gg dX7_find_152 (by decide) ?_
                            refine z_lv [(5, .int (zI (e + 1))), (4, .int (zI x4)), (3, .int (zI x3)), (2, .int (zI p)), (0, .ref h), (1, .ref h2)] [0, 4, 5, 6, 7, 8] rfl ?_
                            exact ih72 (e + 1) (n1 + 1) (zU gs ((z82 * 4) + z97).toNat 1) (zU gq n1.toNat ((z82 * 4) + z97)) (zU gf n1.toNat p) (zU gb n1.toNat e) (by omega) (by omega) ⟨_, _, _, _, QI_new hQ hpn he hv1 (by omega) hs9 (by rintro ⟨b1, b2⟩; rw [hv1, hv5] at b1; rw [hv1] at b2; omega) (by omega), by rw [nU_n _ _ (by omega)]; exact hQq⟩ (by omega)
                          · refine z_aload_n (pc := 129) 8 gg dX7_find_129 rfl rfl ?_
                            refine z_iload (pc := 130) 2 gg dX7_find_130 rfl ?_
                            refine z_callVi (pc := 132) (wr := [cO 7 h [.ref s0, .ref q0, .ref f0, .ref b0, .ref r0, .int (zI (n1 + 1))], cZ M s0 32 (zU gs ((z82 * 4) + z97).toNat 1), cI M q0 32 (zU gq n1.toNat ((z82 * 4) + z97)), cI M f0 32 (zU gf n1.toNat p), cI M b0 32 (zU gb n1.toNat e), cI M r0 32 fr]) (As := [.int (zI z82)]) (st := []) [6, 7, 8, 9] [0, 1, 2, 3, 4, 5] [0, 1, 2, 3, 4, 5, 6, 7, 8, 9] (fun u => [cO 7 h [.ref s0, .ref q0, .ref f0, .ref b0, .ref r0, .int (zI (n1 + 1))], cZ M s0 32 (zU gs ((z82 * 4) + z97).toNat 1), cI M q0 32 (zU gq n1.toNat ((z82 * 4) + z97)), cI M f0 32 (zU gf n1.toNat p), cI M b0 32 (zU gb n1.toNat e), cI M r0 32 fr, cO 2 h2 [.ref l2, .ref g2, .ref w2], cI M l2 32 dl, cZ M g2 8 df, cZ M w2 8 dw]) gg (c_D_feeds M h2 l2 g2 w2 dl df dw z82 (by first | assumption | omega | exact ⟨by omega, by omega⟩) hdf) yv_2_feeds ml_X7_50 dX7_find_132 (by decide) (Nat.le_of_ble_eq_true rfl) (Nat.le_of_ble_eq_true rfl) (Nat.le_of_ble_eq_true rfl) rfl rfl rfl rfl (by decide) rfl (fun _ => rfl) rfl rfl rfl (fun z132 u132 hz132 => ?_)
                            have hdf2 := hdf z82.toNat (by omega)
                            refine z_if_eq (pc := 135) 149 gg dX7_find_135 (by decide) ⟨by omega, by omega⟩ (fun h135 => ?_) (fun h135 => ?_)
                            · refine z_iinc (pc := 149) 3 [(5, .int (zI (e + 1))), (8, .int (zI z113)), (7, .int (zI z97)), (6, .int (zI z82)), (4, .int (zI x4)), (3, .int (zI x3)), (2, .int (zI p)), (0, .ref h), (1, .ref h2)] gg dX7_find_149 rfl (Nat.le_of_ble_eq_true rfl) rfl ?_
                              refine z_goto (pc := 152) 72 gg dX7_find_152 (by decide) ?_
                              refine z_lv [(5, .int (zI (e + 1))), (4, .int (zI x4)), (3, .int (zI x3)), (2, .int (zI p)), (0, .ref h), (1, .ref h2)] [0, 4, 5, 6, 7, 8] rfl ?_
                              exact ih72 (e + 1) (n1 + 1) (zU gs ((z82 * 4) + z97).toNat 1) (zU gq n1.toNat ((z82 * 4) + z97)) (zU gf n1.toNat p) (zU gb n1.toNat e) (by omega) (by omega) ⟨_, _, _, _, QI_new hQ hpn he hv1 (by omega) hs9 (by rintro ⟨b1, b2⟩; rw [hv1, hv5] at b1; rw [hv1] at b2; omega) (by omega), by rw [nU_n _ _ (by omega)]; exact hQq⟩ (by omega)
                            · have hn31 := QI_room hQ (v := (z82 * 4 + z97).toNat) (by omega) hs9
                              obtain ⟨f2, b2, L, k1, k2, k3, k4, k5⟩ := QI_found hQ hpn he hv1 (QI_room hQ (v := (z82 * 4 + z97).toNat) (by omega) hs9) ⟨by rw [hv1, hv5]; omega, by rw [hv1]; omega⟩
                              refine z_aload_n (pc := 138) 7 gg dX7_find_138 rfl rfl ?_
                              refine z_aload_n (pc := 139) 7 gg dX7_find_139 rfl rfl ?_
                              refine z_get (pc := 140) 0 gg fl_X7_30 dX7_find_140 rfl rfl ?_
                              refine z_iconst (pc := 143) gg dX7_find_143 ?_
                              refine z_isub (pc := 144) gg dX7_find_144 ?_
                              refine z_callVi (pc := 145) (wr := [cO 2 h2 [.ref l2, .ref g2, .ref w2], cI M l2 32 dl, cZ M g2 8 df, cZ M w2 8 dw]) (As := [.int (zI ((n1 + 1) - 1))]) (st := []) [0, 1, 2, 3, 4, 5] [6, 7, 8, 9] [4, 5, 6, 7, 8, 9, 0, 1, 2, 3] (fun u => [cO 7 h [.ref s0, .ref q0, .ref f0, .ref b0, .ref r0, .int (zI (n1 + 1))], cZ M s0 32 (zU gs ((z82 * 4) + z97).toNat 1), cI M q0 32 (zU gq n1.toNat ((z82 * 4) + z97)), cI M f0 32 (zU gf n1.toNat p), cI M b0 32 (zU gb n1.toNat e), cI M r0 32 u, cO 2 h2 [.ref l2, .ref g2, .ref w2], cI M l2 32 dl, cZ M g2 8 df, cZ M w2 8 dw]) gg (c_R_writeRow M h s0 q0 f0 b0 r0 (n1 + 1) (zU gs ((z82 * 4) + z97).toNat 1) (zU gq n1.toNat ((z82 * 4) + z97)) (zU gf n1.toNat p) (zU gb n1.toNat e) fr ((n1 + 1) - 1) f2 L (by first | assumption | omega | exact ⟨by omega, by omega⟩) k1 (by rw [show (n1 + 1 - 1).toNat = n1.toNat by omega]; exact k3) (by rw [show (n1 + 1 - 1).toNat = n1.toNat by omega]; exact k4)) yv_7_writeRow ml_X7_53 dX7_find_145 (by decide) (Nat.le_of_ble_eq_true rfl) (Nat.le_of_ble_eq_true rfl) (Nat.le_of_ble_eq_true rfl) rfl rfl rfl rfl (by decide) rfl (fun _ => rfl) rfl rfl rfl (fun z145 u145 hz145 => ?_)
                              exact hret z145 (n1 + 1, (zU gs ((z82 * 4) + z97).toNat 1), (zU gq n1.toNat ((z82 * 4) + z97)), (zU gf n1.toNat p), (zU gb n1.toNat e), u145) 148 _ _ _ (Nat.le_of_ble_eq_true rfl) (Nat.le_of_ble_eq_true rfl) dX7_find_148 rfl (Or.inr ⟨L, _, hz145.1, k1, k2, fun i hi => by
                          have e5 := hz145.2 i hi
                          rw [show (n1 + 1 - 1).toNat = n1.toNat by omega] at e5
                          exact e5.trans (k5 _ (by omega))⟩)
                      · refine z_aload_n (pc := 102) 6 gg dX7_find_102 rfl rfl ?_
                        refine z_iload (pc := 103) 1 gg dX7_find_103 rfl ?_
                        refine z_iconst (pc := 105) gg dX7_find_105 ?_
                        refine z_imul (pc := 106) gg dX7_find_106 ?_
                        refine z_iload (pc := 107) 0 gg dX7_find_107 rfl ?_
                        refine z_iadd (pc := 109) gg dX7_find_109 ?_
                        refine z_iload_n (pc := 110) 5 gg dX7_find_110 rfl rfl ?_
                        refine z_iload (pc := 111) 2 gg dX7_find_111 rfl ?_
                        refine z_callVi (pc := 113) (wr := [cO 2 h2 [.ref l2, .ref g2, .ref w2], cI M l2 32 dl, cZ M g2 8 df, cZ M w2 8 dw]) (As := [.int (zI ((z82 * 4) + z97)), .int (zI p), .int (zI e)]) (st := []) [0, 1, 2, 3, 4, 5] [6, 7, 8, 9] [4, 5, 6, 7, 8, 9, 0, 1, 2, 3] (fun u => [cO 7 h [.ref s0, .ref q0, .ref f0, .ref b0, .ref r0, .int (zI n1)], cZ M s0 32 gs, cI M q0 32 gq, cI M f0 32 gf, cI M b0 32 gb, cI M r0 32 fr, cO 2 h2 [.ref l2, .ref g2, .ref w2], cI M l2 32 dl, cZ M g2 8 df, cZ M w2 8 dw]) gg (c_R_reach_old M h s0 q0 f0 b0 r0 n1 gs gq gf gb fr ((z82 * 4) + z97) p e (by first | assumption | omega | exact ⟨by omega, by omega⟩) hs9) yv_7_reach ml_X7_34 dX7_find_113 (by decide) (Nat.le_of_ble_eq_true rfl) (Nat.le_of_ble_eq_true rfl) (Nat.le_of_ble_eq_true rfl) rfl rfl rfl rfl (by decide) rfl (fun _ => rfl) rfl rfl rfl (fun z113 u113 hz113 => ?_)
                        refine z_istore (pc := 116) [(8, .int (zI z113)), (7, .int (zI z97)), (6, .int (zI z82)), (5, .int (zI e)), (4, .int (zI x4)), (3, .int (zI x3)), (2, .int (zI p)), (0, .ref h), (1, .ref h2)] gg dX7_find_116 (Nat.le_of_ble_eq_true rfl) rfl ?_
                        refine z_iload (pc := 118) 0 gg dX7_find_118 rfl ?_
                        refine z_if_eq (pc := 120) 149 gg dX7_find_120 (by decide) ⟨by omega, by omega⟩ (fun h120 => ?_) (fun h120 => ?_)
                        · refine z_iinc (pc := 149) 3 [(5, .int (zI (e + 1))), (8, .int (zI z113)), (7, .int (zI z97)), (6, .int (zI z82)), (4, .int (zI x4)), (3, .int (zI x3)), (2, .int (zI p)), (0, .ref h), (1, .ref h2)] gg dX7_find_149 rfl (Nat.le_of_ble_eq_true rfl) rfl ?_
                          refine z_goto (pc := 152) 72 gg dX7_find_152 (by decide) ?_
                          refine z_lv [(5, .int (zI (e + 1))), (4, .int (zI x4)), (3, .int (zI x3)), (2, .int (zI p)), (0, .ref h), (1, .ref h2)] [0, 4, 5, 6, 7, 8] rfl ?_
                          exact ih72 (e + 1) n1 gs gq gf gb (by omega) (by omega) ⟨qn, fn, bn, dp, QI_old hQ hpn he hv1 (by omega) hs9, hQq⟩ (by omega)
                        · exfalso; omega
                exact loop72 _ 0 n1 gs gq gf gb (by omega) (by omega) ⟨qn, fn, bn, dp, hQ0, hQe.symm⟩ (Nat.lt_succ_self _)
        exact loop36 _ 0 ((0 : Int) + 1) (zU x (0 : Int).toNat 1) (zU fq (0 : Int).toNat (0 : Int)) (zU ff (0 : Int).toNat (-1 : Int)) (zU fb (0 : Int).toNat (-1 : Int)) (by omega) ⟨_, _, _, _, QI_start (fun j hj => hx j (by omega))⟩ (Nat.lt_succ_self _)
      · refine z_aload_n (pc := 8) 1 gg dX7_find_8 rfl rfl ?_
        refine z_get (pc := 9) 0 gg fl_X7_13 dX7_find_9 rfl rfl ?_
        refine z_iload_n (pc := 12) 0 gg dX7_find_12 rfl rfl ?_
        refine z_iconst (pc := 13) gg dX7_find_13 ?_
        refine z_zast (pc := 14) 1 i.toNat [cO 7 h [.ref s0, .ref q0, .ref f0, .ref b0, .ref r0, .int (zI n)], cZ M s0 32 (zU x i.toNat 0), cI M q0 32 fq, cI M f0 32 ff, cI M b0 32 fb, cI M r0 32 fr, cO 2 h2 [.ref l2, .ref g2, .ref w2], cI M l2 32 dl, cZ M g2 8 df, cZ M w2 8 dw] gg dX7_find_14 rfl (by omega) (by omega) (by decide) (by omega) rfl ?_
        refine z_iinc (pc := 15) 0 [(2, .int (zI (i + 1))), (0, .ref h), (1, .ref h2)] gg dX7_find_15 rfl (Nat.le_of_ble_eq_true rfl) rfl ?_
        refine z_goto (pc := 18) 2 gg dX7_find_18 (by decide) ?_
        exact ih2 (i + 1) (zU x i.toNat 0) (by omega) (zU_eq (g := fun _ => 0) (by omega) hx rfl) (by omega)
  exact loop2 _ 0 fs (by omega) (fun j hj => absurd hj (by omega)) (Nat.lt_succ_self _)
end
section
/-! boards: the worth of the best way, which way it is, what comes of it -/
/-- ways in their order: g 1, g 2 .. against what is best so far; off + k names way k -/
def scn (g : Nat → Int) (off b0 y0 : Int) : Nat → Int × Int
  | 0 => (b0, y0)
  | k + 1 => if (scn g off b0 y0 k).1 < g (k + 1) then (g (k + 1), off + ((k : Int) + 1)) else scn g off b0 y0 k
theorem scn_cong {g g' : Nat → Int} {off b0 y0 : Int} : ∀ {m : Nat}, (∀ k, 1 ≤ k → k ≤ m → g k = g' k) → scn g off b0 y0 m = scn g' off b0 y0 m
  | 0, _ => rfl
  | m + 1, h => by
    have h1 := scn_cong (g := g) (g' := g') (off := off) (b0 := b0) (y0 := y0) (m := m) (fun k a b => h k a (by omega))
    show (if (scn g off b0 y0 m).1 < g (m + 1) then _ else _) = (if (scn g' off b0 y0 m).1 < g' (m + 1) then _ else _)
    rw [h1, h (m + 1) (by omega) (by omega)]
theorem scn_b {g : Nat → Int} {off b0 y0 B : Int} (h0 : 0 ≤ b0 ∧ b0 ≤ B) : ∀ {m : Nat}, (∀ k, 1 ≤ k → k ≤ m → g k ≤ B) → 0 ≤ (scn g off b0 y0 m).1 ∧ (scn g off b0 y0 m).1 ≤ B
  | 0, _ => h0
  | m + 1, h => by
    have h1 := scn_b (g := g) (off := off) (y0 := y0) h0 (m := m) (fun k a b => h k a (by omega))
    have h2 := h (m + 1) (by omega) (by omega)
    show 0 ≤ (if (scn g off b0 y0 m).1 < g (m + 1) then (g (m + 1), off + ((m : Int) + 1)) else scn g off b0 y0 m).1 ∧ (if (scn g off b0 y0 m).1 < g (m + 1) then (g (m + 1), off + ((m : Int) + 1)) else scn g off b0 y0 m).1 ≤ B
    split
    · show 0 ≤ g (m + 1) ∧ g (m + 1) ≤ B
      omega
    · exact h1
def gU (wf : Nat → Int) (saw w h k : Nat) : Int := wf (k * 25 + h) + wf ((w - saw - k) * 25 + h)
def gL (wf : Nat → Int) (saw w h k : Nat) : Int := wf (w * 25 + k) + wf (w * 25 + (h - saw - k))
/-- whole: worth and way of the dearest sheet, or lost -/
def w0B (n : Nat) (sw sh sv : Nat → Int) (w h : Nat) : Int := dW sv (dI sw sh sv w h n)
def w0Y (n : Nat) (sw sh sv : Nat → Int) (w h : Nat) : Int := if dI sw sh sv w h n < 0 then -100 else -1 - dI sw sh sv w h n
def upS (n : Nat) (sw sh sv wf : Nat → Int) (saw w h : Nat) (k : Nat) : Int × Int := scn (gU wf saw w h) 0 (w0B n sw sh sv w h) (w0Y n sw sh sv w h) k
def lvS (n : Nat) (sw sh sv wf : Nat → Int) (saw w h : Nat) (k : Nat) : Int × Int := scn (gL wf saw w h) 100 (upS n sw sh sv wf saw w h (w - saw - 1)).1 (upS n sw sh sv wf saw w h (w - saw - 1)).2 k
def fin (n : Nat) (sw sh sv wf : Nat → Int) (saw w h : Nat) : Int × Int := lvS n sw sh sv wf saw w h (h - saw - 1)
theorem fin_cong {n : Nat} {sw sh sv wf wf' : Nat → Int} {saw w h : Nat} (h1 : ∀ k, 1 ≤ k → k < w → wf (k * 25 + h) = wf' (k * 25 + h)) (h2 : ∀ k, 1 ≤ k → k < h → wf (w * 25 + k) = wf' (w * 25 + k)) : fin n sw sh sv wf saw w h = fin n sw sh sv wf' saw w h := by
  have e : ∀ k, k ≤ w - saw - 1 → upS n sw sh sv wf saw w h k = upS n sw sh sv wf' saw w h k := fun k hk => scn_cong (fun j a b => by
    unfold gU
    rw [h1 j a (by omega), h1 (w - saw - j) (by omega) (by omega)])
  unfold fin lvS
  rw [e _ (Nat.le_refl _)]
  exact scn_cong (fun j a b => by
    unfold gL
    rw [h2 j a (by omega), h2 (h - saw - j) (by omega) (by omega)])
theorem w0B_b {n : Nat} {sw sh sv : Nat → Int} {w h : Nat} (hs : ∀ j, j < n → 0 ≤ sv j ∧ sv j ≤ 999) : 0 ≤ w0B n sw sh sv w h ∧ w0B n sw sh sv w h ≤ 999 := by
  unfold w0B dW
  have := dI_lo sw sh sv w h n
  split
  · omega
  · exact hs _ (by omega)
/-- what comes of a board: of a sheet k, or (6) of cuts -/
def cm (mk : Nat → Int) (k saw w h : Nat) (y : Int) : Int :=
  if y < 0 then (if (k : Int) = -1 - y then 1 else 0)
  else if y < 100 then mk (y.toNat * 25 + h) + mk ((w - saw - y.toNat) * 25 + h) + (if k = 6 then 1 else 0)
  else mk (w * 25 + (y.toNat - 100)) + mk (w * 25 + (h - saw - (y.toNat - 100))) + (if k = 6 then 1 else 0)
/-- the way, as two boards' places -/
def rlY (saw w h : Int) (y f1 f2 : Int) : Prop :=
  (y < 0 ∧ f1 = -1 ∧ f2 = -1) ∨ (1 ≤ y ∧ y + saw < w ∧ f1 = y * 25 + h ∧ f2 = (w - saw - y) * 25 + h) ∨ (101 ≤ y ∧ y - 100 + saw < h ∧ f1 = w * 25 + (y - 100) ∧ f2 = w * 25 + (h - saw - (y - 100)))
/-- seven rows under one array of rows -/
def gr (r : Nat → Nat) : Nat → Option Nat := fun i => if i < 7 then some (r i) else none
def upR (m : Nat → Nat → Int) (k : Nat) (f : Nat → Int) : Nat → Nat → Int := fun i => if i = k then f else m i
theorem upR_s (m : Nat → Nat → Int) (k : Nat) (f : Nat → Int) : upR m k f k = f := if_pos rfl
theorem upR_n (m : Nat → Nat → Int) {k i : Nat} (f : Nat → Int) (h : i ≠ k) : upR m k f i = m i := if_neg h
theorem fam_at {M : KM} {r : Nat → Nat} {m : Nat → Nat → Int} {a b c : Nat × va_E} {tl : va_W} {k : Nat} (hk : k < 7) : (a :: b :: c :: cI M (r 0) 625 (m 0) :: cI M (r 1) 625 (m 1) :: cI M (r 2) 625 (m 2) :: cI M (r 3) 625 (m 3) :: cI M (r 4) 625 (m 4) :: cI M (r 5) 625 (m 5) :: cI M (r 6) 625 (m 6) :: tl)[3 + k]? = some (cI M (r k) 625 (m k)) := by
  rcases (show k = 0 ∨ k = 1 ∨ k = 2 ∨ k = 3 ∨ k = 4 ∨ k = 5 ∨ k = 6 by omega) with rfl | rfl | rfl | rfl | rfl | rfl | rfl <;> rfl
theorem fam_set {M : KM} {r : Nat → Nat} {m : Nat → Nat → Int} {a b c : Nat × va_E} {tl : va_W} {k : Nat} (hk : k < 7) (f : Nat → Int) : (a :: b :: c :: cI M (r 0) 625 (m 0) :: cI M (r 1) 625 (m 1) :: cI M (r 2) 625 (m 2) :: cI M (r 3) 625 (m 3) :: cI M (r 4) 625 (m 4) :: cI M (r 5) 625 (m 5) :: cI M (r 6) 625 (m 6) :: tl).set (3 + k) (cI M (r k) 625 f) = a :: b :: c :: cI M (r 0) 625 (upR m k f 0) :: cI M (r 1) 625 (upR m k f 1) :: cI M (r 2) 625 (upR m k f 2) :: cI M (r 3) 625 (upR m k f 3) :: cI M (r 4) 625 (upR m k f 4) :: cI M (r 5) 625 (upR m k f 5) :: cI M (r 6) 625 (upR m k f 6) :: tl := by
  rcases (show k = 0 ∨ k = 1 ∨ k = 2 ∨ k = 3 ∨ k = 4 ∨ k = 5 ∨ k = 6 by omega) with rfl | rfl | rfl | rfl | rfl | rfl | rfl <;> rfl
section KG
variable {M : KM} {E : KE} {nL cells slots d mc ms : Nat} {ws : va_W} {lv : List (Nat × Value)} {st : List Value} {cc : ByteArray} {own : String}
theorem z_grow {pc a : Nat} {r : Nat → Nat} {z : Int} (q0 k : Nat) (g : kG M E nL d mc ms cc own) (hd : decode cc pc = .ok (.aaload, 1)) (he : ws[q0]? = some (cG M a 7 (gr r))) (hz : z = (k : Int)) (hk : k < 7) (kk : kV M E nL cells slots ws lv (pc + 1) (.ref (r k) :: st)) : kV M E nL cells slots ws lv pc (.int (zI z) :: .ref a :: st) := by
  refine z_gald q0 k g hd he hz hk (by decide) ?_
  have e : va_rf (gr r k) = .ref (r k) := by
    unfold gr
    rw [if_pos hk]
    rfl
  rw [e]
  exact kk
set_option maxHeartbeats 4000000 in
theorem z_mna {pc index : Nat} (g : kG M E nL d mc ms cc own) (hd : decode cc pc = .ok (.multianewarray index 2, 4)) (hcl : Cond.classLink own index "[[I" ∈ wsA) (harr : Cond.arrayClass .int ∈ wsA) (hc : cells + 8 ≤ mc) (hs : slots + 4382 ≤ ms) (kk : ∀ (q : Nat) (r : Nat → Nat), kV M E nL (cells + 8) (slots + 4382) (ws ++ [cG M q 7 (gr r), cI M (r 0) 625 (fun _ => 0), cI M (r 1) 625 (fun _ => 0), cI M (r 2) 625 (fun _ => 0), cI M (r 3) 625 (fun _ => 0), cI M (r 4) 625 (fun _ => 0), cI M (r 5) 625 (fun _ => 0), cI M (r 6) 625 (fun _ => 0)]) lv (pc + 4) (.ref q :: st)) : kV M E nL cells slots ws lv pc (.int (zI 625) :: .int (zI 7) :: st) := by
  obtain ⟨p, e, R, s, m, args, below, meth, c, A, Q⟩ := E
  obtain ⟨hx, hb, hml, hown, hts, hK, hA, hX, hR1, hR2, hR3, hR4⟩ := g
  intro H locs ls hP hD hS hl
  have hPn : va_P M.1 vwCl (ws ++ va_pl [] (fun _ => .inr (0, []))) H := by
    rw [show va_pl [] (fun _ => (.inr (0, []) : va_E)) = [] from rfl, List.append_nil]
    exact hP
  have hDn : va_D A (ws ++ va_pl [] (fun _ => .inr (0, []))) := by
    rw [show va_pl [] (fun _ => (.inr (0, []) : va_E)) = [] from rfl, List.append_nil]
    exact hD
  have es : ("[" ++ (FieldType.array FieldType.int).toString) = "[[I" := by decide +kernel
  have ei : (FieldType.array FieldType.int).toString = "[I" := by decide +kernel
  have h7 : zI 7 = zI ((7 : Nat) : Int) := rfl
  have h625 : zI 625 = zI ((625 : Nat) : Int) := rfl
  refine va_mna (ty := .int) (cy := M.2.1 0) (z := (625, .inl (fun _ => zI 0))) (N' := 7) (K' := 625) hx hb hown (by rw [es]; exact hts _ hcl) hX.2.2.2.2.2.2.2.2.2.2 (hts _ harr) (by rw [ei]; exact va_nm_int (hK.2 0 _ rfl).2) hK hPn hDn hS hA (by rw [h7]; exact zI_nneg (by decide)) (by rw [h625]; exact zI_nneg (by decide)) (zI_clamp (k := 7) rfl (by decide)) (zI_clamp (k := 625) rfl (by decide)) (by decide) (by decide) (by decide) rfl rfl (by omega) (by omega) (fun cl => ?_) hd (fun q r cA H1 hr1 hr2 hK1 hP1 hD1 hS1 => ?_)
  · rw [vp_cell_i, zI_0]
    exact arrV_new cl 625 (defaultValue .int)
  · have e1 : s.vm.findClass ("[" ++ (FieldType.array FieldType.int).toString) = some cA := (hK1.2 4 _ rfl).2
    have e2 : s.vm.findClass ("[" ++ (FieldType.array FieldType.int).toString) = some (M.2.1 3) := (hK.2 3 _ rfl).2
    have e3 : some cA = some (M.2.1 3) := e1.symm.trans e2
    cases e3
    have er : va_pl ([] ++ (List.range 7).map r) (vr_up (fun _ => (.inr (0, []) : va_E)) ((List.range 7).map r) (.inl (M.2.1 0, 625, .inl (fun _ => zI 0)))) = [cI M (r 0) 625 (fun _ => 0), cI M (r 1) 625 (fun _ => 0), cI M (r 2) 625 (fun _ => 0), cI M (r 3) 625 (fun _ => 0), cI M (r 4) 625 (fun _ => 0), cI M (r 5) 625 (fun _ => 0), cI M (r 6) 625 (fun _ => 0)] := by
      rw [List.nil_append]
      unfold va_pl
      rw [List.map_congr_left (g := fun a => (a, (.inl (M.2.1 0, 625, .inl (fun _ => zI 0)) : va_E))) (fun a ha => by rw [vr_up_in ha])]
      rfl
    rw [er, List.append_assoc] at hP1 hD1
    exact W.widen (by omega) (by omega) (kk q r H1 locs ls hP1 hD1 hS1 hl)
end KG
end
section
set_option maxHeartbeats 4000000 in
set_option maxRecDepth 100000 in
theorem c_C_init (M : KM) (t : Nat)  : kCV M yX1_init cX1_init 1 1 9 5007 [cO 1 t [.null, .null, .int (zI 0), .int (zI 0), .int (zI 0), .int (zI 0)]] [.ref t] (fun u : Nat × Nat × (Nat → Nat) => True) (fun u => [cO 1 t [.ref u.1, .ref u.2.1, .int (zI 0), .int (zI 0), .int (zI (-1)), .int (zI (-1))], cI M u.1 625 (fun _ => 0), cG M u.2.1 7 (gr u.2.2), cI M (u.2.2 0) 625 ((fun _ _ => 0) 0), cI M (u.2.2 1) 625 ((fun _ _ => 0) 1), cI M (u.2.2 2) 625 ((fun _ _ => 0) 2), cI M (u.2.2 3) 625 ((fun _ _ => 0) 3), cI M (u.2.2 4) 625 ((fun _ _ => 0) 4), cI M (u.2.2 5) 625 ((fun _ _ => 0) 5), cI M (u.2.2 6) 625 ((fun _ _ => 0) 6)]) := by
  refine kCV.of [(0, .ref t)] (by decide) (Nat.le_of_ble_eq_true rfl) rfl (fun E gg gn hret => ?_)
  refine z_aload_n (pc := 0) 0 gg dX1_init_0 rfl rfl ?_
  refine z_obj (pc := 1) gg dX1_init_1 ml_X1_7 oi_1 oi_2 (by decide) (Nat.le_of_ble_eq_true rfl) ?_
  refine z_aload_n (pc := 4) 0 gg dX1_init_4 rfl rfl ?_
  refine z_sipush (pc := 5) gg dX1_init_5 (by decide +kernel) ?_
  refine z_newaI (pc := 8) gg dX1_init_8 ar_I rfl (by decide) (Nat.le_of_ble_eq_true rfl) (Nat.le_of_ble_eq_true rfl) (fun q1 => ?_)
  show kV M E 1 _ _ [cO 1 t [.null, .null, .int (zI 0), .int (zI 0), .int (zI 0), .int (zI 0)], cI M q1 625 (fun _ => 0)] _ _ _
  refine z_putF (pc := 10) 0 [cO 1 t [.ref q1, .null, .int (zI 0), .int (zI 0), .int (zI 0), .int (zI 0)], cI M q1 625 (fun _ => 0)] gg gn fp_X1_13 dX1_init_10 rfl rfl rfl (Nat.le_of_ble_eq_true rfl) rfl ?_
  refine z_aload_n (pc := 13) 0 gg dX1_init_13 rfl rfl ?_
  refine z_bipush (pc := 14) gg dX1_init_14 (by decide +kernel) ?_
  refine z_sipush (pc := 16) gg dX1_init_16 (by decide +kernel) ?_
  refine z_mna (pc := 19) gg dX1_init_19 cl_X1_17 ar_I (Nat.le_of_ble_eq_true rfl) (Nat.le_of_ble_eq_true rfl) (fun q2 r3 => ?_)
  show kV M E 1 _ _ [cO 1 t [.ref q1, .null, .int (zI 0), .int (zI 0), .int (zI 0), .int (zI 0)], cI M q1 625 (fun _ => 0), cG M q2 7 (gr r3), cI M (r3 0) 625 ((fun _ _ => 0) 0), cI M (r3 1) 625 ((fun _ _ => 0) 1), cI M (r3 2) 625 ((fun _ _ => 0) 2), cI M (r3 3) 625 ((fun _ _ => 0) 3), cI M (r3 4) 625 ((fun _ _ => 0) 4), cI M (r3 5) 625 ((fun _ _ => 0) 5), cI M (r3 6) 625 ((fun _ _ => 0) 6)] _ _ _
  refine z_putF (pc := 23) 0 [cO 1 t [.ref q1, .ref q2, .int (zI 0), .int (zI 0), .int (zI 0), .int (zI 0)], cI M q1 625 (fun _ => 0), cG M q2 7 (gr r3), cI M (r3 0) 625 ((fun _ _ => 0) 0), cI M (r3 1) 625 ((fun _ _ => 0) 1), cI M (r3 2) 625 ((fun _ _ => 0) 2), cI M (r3 3) 625 ((fun _ _ => 0) 3), cI M (r3 4) 625 ((fun _ _ => 0) 4), cI M (r3 5) 625 ((fun _ _ => 0) 5), cI M (r3 6) 625 ((fun _ _ => 0) 6)] gg gn fp_X1_19 dX1_init_23 rfl rfl rfl (Nat.le_of_ble_eq_true rfl) rfl ?_
  refine z_aload_n (pc := 26) 0 gg dX1_init_26 rfl rfl ?_
  refine z_iconst (pc := 27) gg dX1_init_27 ?_
  refine z_put (pc := 28) 0 [cO 1 t [.ref q1, .ref q2, .int (zI 0), .int (zI 0), .int (zI 0), .int (zI 0)], cI M q1 625 (fun _ => 0), cG M q2 7 (gr r3), cI M (r3 0) 625 ((fun _ _ => 0) 0), cI M (r3 1) 625 ((fun _ _ => 0) 1), cI M (r3 2) 625 ((fun _ _ => 0) 2), cI M (r3 3) 625 ((fun _ _ => 0) 3), cI M (r3 4) 625 ((fun _ _ => 0) 4), cI M (r3 5) 625 ((fun _ _ => 0) 5), cI M (r3 6) 625 ((fun _ _ => 0) 6)] gg fp_X1_22 dX1_init_28 rfl (zB01 (by omega)) rfl (Nat.le_of_ble_eq_true rfl) rfl ?_
  refine z_aload_n (pc := 31) 0 gg dX1_init_31 rfl rfl ?_
  refine z_iconst (pc := 32) gg dX1_init_32 ?_
  refine z_put (pc := 33) 0 [cO 1 t [.ref q1, .ref q2, .int (zI 0), .int (zI 0), .int (zI 0), .int (zI 0)], cI M q1 625 (fun _ => 0), cG M q2 7 (gr r3), cI M (r3 0) 625 ((fun _ _ => 0) 0), cI M (r3 1) 625 ((fun _ _ => 0) 1), cI M (r3 2) 625 ((fun _ _ => 0) 2), cI M (r3 3) 625 ((fun _ _ => 0) 3), cI M (r3 4) 625 ((fun _ _ => 0) 4), cI M (r3 5) 625 ((fun _ _ => 0) 5), cI M (r3 6) 625 ((fun _ _ => 0) 6)] gg fp_X1_26 dX1_init_33 rfl rfl rfl (Nat.le_of_ble_eq_true rfl) rfl ?_
  refine z_aload_n (pc := 36) 0 gg dX1_init_36 rfl rfl ?_
  refine z_iconst (pc := 37) gg dX1_init_37 ?_
  refine z_put (pc := 38) 0 [cO 1 t [.ref q1, .ref q2, .int (zI 0), .int (zI 0), .int (zI (-1)), .int (zI 0)], cI M q1 625 (fun _ => 0), cG M q2 7 (gr r3), cI M (r3 0) 625 ((fun _ _ => 0) 0), cI M (r3 1) 625 ((fun _ _ => 0) 1), cI M (r3 2) 625 ((fun _ _ => 0) 2), cI M (r3 3) 625 ((fun _ _ => 0) 3), cI M (r3 4) 625 ((fun _ _ => 0) 4), cI M (r3 5) 625 ((fun _ _ => 0) 5), cI M (r3 6) 625 ((fun _ _ => 0) 6)] gg fp_X1_30 dX1_init_38 rfl rfl rfl (Nat.le_of_ble_eq_true rfl) rfl ?_
  refine z_aload_n (pc := 41) 0 gg dX1_init_41 rfl rfl ?_
  refine z_iconst (pc := 42) gg dX1_init_42 ?_
  refine z_put (pc := 43) 0 [cO 1 t [.ref q1, .ref q2, .int (zI 0), .int (zI 0), .int (zI (-1)), .int (zI (-1))], cI M q1 625 (fun _ => 0), cG M q2 7 (gr r3), cI M (r3 0) 625 ((fun _ _ => 0) 0), cI M (r3 1) 625 ((fun _ _ => 0) 1), cI M (r3 2) 625 ((fun _ _ => 0) 2), cI M (r3 3) 625 ((fun _ _ => 0) 3), cI M (r3 4) 625 ((fun _ _ => 0) 4), cI M (r3 5) 625 ((fun _ _ => 0) 5), cI M (r3 6) 625 ((fun _ _ => 0) 6)] gg fp_X1_33 dX1_init_43 rfl rfl rfl (Nat.le_of_ble_eq_true rfl) rfl ?_
  exact hret (q1, q2, r3) 46 _ _ _ (Nat.le_of_ble_eq_true rfl) (Nat.le_of_ble_eq_true rfl) dX1_init_46 trivial
set_option maxHeartbeats 4000000 in
set_option maxRecDepth 100000 in
theorem c_C_forget (M : KM) (t wo ma : Nat) (r : Nat → Nat) (kn bw f1 f2 : Int) (wf : Nat → Int) (m : Nat → Nat → Int)  : kCV M yX1_forget cX1_forget 1 0 0 0 [cO 1 t [.ref wo, .ref ma, .int (zI kn), .int (zI bw), .int (zI f1), .int (zI f2)], cI M wo 625 wf, cG M ma 7 (gr r), cI M (r 0) 625 (m 0), cI M (r 1) 625 (m 1), cI M (r 2) 625 (m 2), cI M (r 3) 625 (m 3), cI M (r 4) 625 (m 4), cI M (r 5) 625 (m 5), cI M (r 6) 625 (m 6)] [.ref t] (fun u : Unit => True) (fun u => [cO 1 t [.ref wo, .ref ma, .int (zI 0), .int (zI bw), .int (zI f1), .int (zI f2)], cI M wo 625 wf, cG M ma 7 (gr r), cI M (r 0) 625 (m 0), cI M (r 1) 625 (m 1), cI M (r 2) 625 (m 2), cI M (r 3) 625 (m 3), cI M (r 4) 625 (m 4), cI M (r 5) 625 (m 5), cI M (r 6) 625 (m 6)]) := by
  refine kCV.of [(0, .ref t)] (by decide) (Nat.le_of_ble_eq_true rfl) rfl (fun E gg gn hret => ?_)
  refine z_aload_n (pc := 0) 0 gg dX1_forget_0 rfl rfl ?_
  refine z_iconst (pc := 1) gg dX1_forget_1 ?_
  refine z_put (pc := 2) 0 [cO 1 t [.ref wo, .ref ma, .int (zI 0), .int (zI bw), .int (zI f1), .int (zI f2)], cI M wo 625 wf, cG M ma 7 (gr r), cI M (r 0) 625 (m 0), cI M (r 1) 625 (m 1), cI M (r 2) 625 (m 2), cI M (r 3) 625 (m 3), cI M (r 4) 625 (m 4), cI M (r 5) 625 (m 5), cI M (r 6) 625 (m 6)] gg fp_X1_22 dX1_forget_2 rfl (zB01 (by omega)) rfl (Nat.le_of_ble_eq_true rfl) rfl ?_
  exact hret () 5 _ _ _ (Nat.le_of_ble_eq_true rfl) (Nat.le_of_ble_eq_true rfl) dX1_forget_5 trivial
set_option maxHeartbeats 4000000 in
set_option maxRecDepth 100000 in
theorem c_C_place (M : KM) (w h : Int)  : kCI M yX1_place cX1_place 2 .int 0 0 0 [] [.int (zI w), .int (zI h)] (fun z (u : Unit) => z = w * 25 + h) (fun u => []) := by
  refine kCI.of [(0, .int (zI w)), (1, .int (zI h))] (by decide) (Nat.le_of_ble_eq_true rfl) rfl (fun E gg hret => ?_)
  refine z_iload_n (pc := 0) 0 gg dX1_place_0 rfl rfl ?_
  refine z_bipush (pc := 1) gg dX1_place_1 (by decide +kernel) ?_
  refine z_imul (pc := 3) gg dX1_place_3 ?_
  refine z_iload_n (pc := 4) 1 gg dX1_place_4 rfl rfl ?_
  refine z_iadd (pc := 5) gg dX1_place_5 ?_
  exact hret ((w * 25) + h) () 6 _ _ _ (Nat.le_of_ble_eq_true rfl) (Nat.le_of_ble_eq_true rfl) dX1_place_6 rfl rfl
set_option maxHeartbeats 4000000 in
set_option maxRecDepth 100000 in
theorem c_C_isPlace (M : KM) (x : Int) (hx : zR x) : kCI M yX1_isPlace cX1_isPlace 1 .boolean 0 0 0 [] [.int (zI x)] (fun z (u : Unit) => (z = 1 ∧ 0 ≤ x ∧ x < 625) ∨ (z = 0 ∧ (x < 0 ∨ 625 ≤ x))) (fun u => []) := by
  refine kCI.of [(0, .int (zI x))] (by decide) (Nat.le_of_ble_eq_true rfl) rfl (fun E gg hret => ?_)
  have r1_hx := hx.1
  have r2_hx := hx.2
  refine z_iload_n (pc := 0) 0 gg dX1_isPlace_0 rfl rfl ?_
  refine z_if_lt (pc := 1) 15 gg dX1_isPlace_1 (by decide) ⟨by omega, by omega⟩ (fun h1 => ?_) (fun h1 => ?_)
  · refine z_iconst (pc := 15) gg dX1_isPlace_15 ?_
    exact hret 0 () 16 _ _ _ (Nat.le_of_ble_eq_true rfl) (Nat.le_of_ble_eq_true rfl) dX1_isPlace_16 (zB01 (by omega)) (by omega)
  · refine z_iload_n (pc := 4) 0 gg dX1_isPlace_4 rfl rfl ?_
    refine z_sipush (pc := 5) gg dX1_isPlace_5 (by decide +kernel) ?_
    refine z_icmp_ge (pc := 8) 15 gg dX1_isPlace_8 (by decide) ⟨by omega, by omega⟩ ⟨by omega, by omega⟩ (fun h8 => ?_) (fun h8 => ?_)
    · refine z_iconst (pc := 15) gg dX1_isPlace_15 ?_
      exact hret 0 () 16 _ _ _ (Nat.le_of_ble_eq_true rfl) (Nat.le_of_ble_eq_true rfl) dX1_isPlace_16 (zB01 (by omega)) (by omega)
    · refine z_iconst (pc := 11) gg dX1_isPlace_11 ?_
      refine z_goto (pc := 12) 16 gg dX1_isPlace_12 (by decide) ?_
      exact hret 1 () 16 _ _ _ (Nat.le_of_ble_eq_true rfl) (Nat.le_of_ble_eq_true rfl) dX1_isPlace_16 (zB01 (by omega)) (by omega)
set_option maxHeartbeats 4000000 in
set_option maxRecDepth 100000 in
theorem c_C_worthOf (M : KM) (t wo ma : Nat) (r : Nat → Nat) (kn bw f1 f2 : Int) (wf : Nat → Int) (m : Nat → Nat → Int) (w h : Int) (hw : zR w) (hh : zR h) : kCI M yX1_worthOf cX1_worthOf 3 .int 1 0 0 [cO 1 t [.ref wo, .ref ma, .int (zI kn), .int (zI bw), .int (zI f1), .int (zI f2)], cI M wo 625 wf, cG M ma 7 (gr r), cI M (r 0) 625 (m 0), cI M (r 1) 625 (m 1), cI M (r 2) 625 (m 2), cI M (r 3) 625 (m 3), cI M (r 4) 625 (m 4), cI M (r 5) 625 (m 5), cI M (r 6) 625 (m 6)] [.ref t, .int (zI w), .int (zI h)] (fun z (u : Unit) => (1 ≤ w ∧ w ≤ 24 ∧ 1 ≤ h ∧ h ≤ 24 ∧ z = wf (w.toNat * 25 + h.toNat)) ∨ ((w < 1 ∨ 24 < w ∨ h < 1 ∨ 24 < h) ∧ z = -1)) (fun u => [cO 1 t [.ref wo, .ref ma, .int (zI kn), .int (zI bw), .int (zI f1), .int (zI f2)], cI M wo 625 wf, cG M ma 7 (gr r), cI M (r 0) 625 (m 0), cI M (r 1) 625 (m 1), cI M (r 2) 625 (m 2), cI M (r 3) 625 (m 3), cI M (r 4) 625 (m 4), cI M (r 5) 625 (m 5), cI M (r 6) 625 (m 6)]) := by
  refine kCI.of [(0, .ref t), (1, .int (zI w)), (2, .int (zI h))] (by decide) (Nat.le_of_ble_eq_true rfl) rfl (fun E gg hret => ?_)
  have r1_hw := hw.1
  have r2_hw := hw.2
  have r1_hh := hh.1
  have r2_hh := hh.2
  refine z_iload_n (pc := 0) 1 gg dX1_worthOf_0 rfl rfl ?_
  refine z_iload_n (pc := 1) 2 gg dX1_worthOf_1 rfl rfl ?_
  refine z_callS (pc := 2) (As := [.int (zI w), .int (zI h)]) (st := []) gg (c_S_hasSides M w h (by first | assumption | omega | exact ⟨by omega, by omega⟩) (by first | assumption | omega | exact ⟨by omega, by omega⟩)) ys_8_hasSides ml_X1_40 dX1_worthOf_2 (by decide) (Nat.le_of_ble_eq_true rfl) (Nat.le_of_ble_eq_true rfl) (Nat.le_of_ble_eq_true rfl) rfl rfl (fun z2 u2 hz2 => ?_)
  refine z_if_eq (pc := 5) 21 gg dX1_worthOf_5 (by decide) ⟨by omega, by omega⟩ (fun h5 => ?_) (fun h5 => ?_)
  · refine z_iconst (pc := 21) gg dX1_worthOf_21 ?_
    exact hret (-1) () 22 _ _ _ (Nat.le_of_ble_eq_true rfl) (Nat.le_of_ble_eq_true rfl) dX1_worthOf_22 rfl (by omega)
  · refine z_aload_n (pc := 8) 0 gg dX1_worthOf_8 rfl rfl ?_
    refine z_get (pc := 9) 0 gg fl_X1_13 dX1_worthOf_9 rfl rfl ?_
    refine z_iload_n (pc := 12) 1 gg dX1_worthOf_12 rfl rfl ?_
    refine z_iload_n (pc := 13) 2 gg dX1_worthOf_13 rfl rfl ?_
    refine z_callS (pc := 14) (As := [.int (zI w), .int (zI h)]) (st := [.ref wo]) gg (c_C_place M w h ) ys_1_place ml_X1_44 dX1_worthOf_14 (by decide) (Nat.le_of_ble_eq_true rfl) (Nat.le_of_ble_eq_true rfl) (Nat.le_of_ble_eq_true rfl) rfl rfl (fun z14 u14 hz14 => ?_)
    refine z_iald (pc := 17) 1 (w.toNat * 25 + h.toNat) gg dX1_worthOf_17 rfl (by omega) (by omega) (by decide) ?_
    refine z_goto (pc := 18) 22 gg dX1_worthOf_18 (by decide) ?_
    exact hret (wf (w.toNat * 25 + h.toNat)) () 22 _ _ _ (Nat.le_of_ble_eq_true rfl) (Nat.le_of_ble_eq_true rfl) dX1_worthOf_22 rfl (by omega)
set_option maxHeartbeats 4000000 in
set_option maxRecDepth 100000 in
theorem c_C_cutsOf (M : KM) (t wo ma : Nat) (r : Nat → Nat) (kn bw f1 f2 : Int) (wf : Nat → Int) (m : Nat → Nat → Int) (w h : Int) (hw : zR w) (hh : zR h) : kCI M yX1_cutsOf cX1_cutsOf 3 .int 1 0 0 [cO 1 t [.ref wo, .ref ma, .int (zI kn), .int (zI bw), .int (zI f1), .int (zI f2)], cI M wo 625 wf, cG M ma 7 (gr r), cI M (r 0) 625 (m 0), cI M (r 1) 625 (m 1), cI M (r 2) 625 (m 2), cI M (r 3) 625 (m 3), cI M (r 4) 625 (m 4), cI M (r 5) 625 (m 5), cI M (r 6) 625 (m 6)] [.ref t, .int (zI w), .int (zI h)] (fun z (u : Unit) => (1 ≤ w ∧ w ≤ 24 ∧ 1 ≤ h ∧ h ≤ 24 ∧ z = m 6 (w.toNat * 25 + h.toNat)) ∨ ((w < 1 ∨ 24 < w ∨ h < 1 ∨ 24 < h) ∧ z = -1)) (fun u => [cO 1 t [.ref wo, .ref ma, .int (zI kn), .int (zI bw), .int (zI f1), .int (zI f2)], cI M wo 625 wf, cG M ma 7 (gr r), cI M (r 0) 625 (m 0), cI M (r 1) 625 (m 1), cI M (r 2) 625 (m 2), cI M (r 3) 625 (m 3), cI M (r 4) 625 (m 4), cI M (r 5) 625 (m 5), cI M (r 6) 625 (m 6)]) := by
  refine kCI.of [(0, .ref t), (1, .int (zI w)), (2, .int (zI h))] (by decide) (Nat.le_of_ble_eq_true rfl) rfl (fun E gg hret => ?_)
  have r1_hw := hw.1
  have r2_hw := hw.2
  have r1_hh := hh.1
  have r2_hh := hh.2
  refine z_iload_n (pc := 0) 1 gg dX1_cutsOf_0 rfl rfl ?_
  refine z_iload_n (pc := 1) 2 gg dX1_cutsOf_1 rfl rfl ?_
  refine z_callS (pc := 2) (As := [.int (zI w), .int (zI h)]) (st := []) gg (c_S_hasSides M w h (by first | assumption | omega | exact ⟨by omega, by omega⟩) (by first | assumption | omega | exact ⟨by omega, by omega⟩)) ys_8_hasSides ml_X1_40 dX1_cutsOf_2 (by decide) (Nat.le_of_ble_eq_true rfl) (Nat.le_of_ble_eq_true rfl) (Nat.le_of_ble_eq_true rfl) rfl rfl (fun z2 u2 hz2 => ?_)
  refine z_if_eq (pc := 5) 24 gg dX1_cutsOf_5 (by decide) ⟨by omega, by omega⟩ (fun h5 => ?_) (fun h5 => ?_)
  · refine z_iconst (pc := 24) gg dX1_cutsOf_24 ?_
    exact hret (-1) () 25 _ _ _ (Nat.le_of_ble_eq_true rfl) (Nat.le_of_ble_eq_true rfl) dX1_cutsOf_25 rfl (by omega)
  · refine z_aload_n (pc := 8) 0 gg dX1_cutsOf_8 rfl rfl ?_
    refine z_get (pc := 9) 0 gg fl_X1_19 dX1_cutsOf_9 rfl rfl ?_
    refine z_bipush (pc := 12) gg dX1_cutsOf_12 (by decide +kernel) ?_
    refine z_grow (pc := 14) 2 6 gg dX1_cutsOf_14 rfl (by omega) (by omega) ?_
    refine z_iload_n (pc := 15) 1 gg dX1_cutsOf_15 rfl rfl ?_
    refine z_iload_n (pc := 16) 2 gg dX1_cutsOf_16 rfl rfl ?_
    refine z_callS (pc := 17) (As := [.int (zI w), .int (zI h)]) (st := [.ref (r 6)]) gg (c_C_place M w h ) ys_1_place ml_X1_44 dX1_cutsOf_17 (by decide) (Nat.le_of_ble_eq_true rfl) (Nat.le_of_ble_eq_true rfl) (Nat.le_of_ble_eq_true rfl) rfl rfl (fun z17 u17 hz17 => ?_)
    refine z_iald (pc := 20) (3 + 6) (w.toNat * 25 + h.toNat) gg dX1_cutsOf_20 (fam_at (by omega)) (by omega) (by omega) (by decide) ?_
    refine z_goto (pc := 21) 25 gg dX1_cutsOf_21 (by decide) ?_
    exact hret (m 6 (w.toNat * 25 + h.toNat)) () 25 _ _ _ (Nat.le_of_ble_eq_true rfl) (Nat.le_of_ble_eq_true rfl) dX1_cutsOf_25 rfl (by omega)
set_option maxHeartbeats 4000000 in
set_option maxRecDepth 100000 in
theorem c_C_sheetsOf (M : KM) (t wo ma : Nat) (r : Nat → Nat) (kn bw f1 f2 : Int) (wf : Nat → Int) (m : Nat → Nat → Int) (w h x : Int) (hw : zR w) (hh : zR h) (hx : 0 ≤ x ∧ x < 6) : kCI M yX1_sheetsOf cX1_sheetsOf 5 .int 1 0 0 [cO 1 t [.ref wo, .ref ma, .int (zI kn), .int (zI bw), .int (zI f1), .int (zI f2)], cI M wo 625 wf, cG M ma 7 (gr r), cI M (r 0) 625 (m 0), cI M (r 1) 625 (m 1), cI M (r 2) 625 (m 2), cI M (r 3) 625 (m 3), cI M (r 4) 625 (m 4), cI M (r 5) 625 (m 5), cI M (r 6) 625 (m 6)] [.ref t, .int (zI w), .int (zI h), .int (zI x)] (fun z (u : Unit) => (1 ≤ w ∧ w ≤ 24 ∧ 1 ≤ h ∧ h ≤ 24 ∧ z = m x.toNat (w.toNat * 25 + h.toNat)) ∨ ((w < 1 ∨ 24 < w ∨ h < 1 ∨ 24 < h) ∧ z = -1)) (fun u => [cO 1 t [.ref wo, .ref ma, .int (zI kn), .int (zI bw), .int (zI f1), .int (zI f2)], cI M wo 625 wf, cG M ma 7 (gr r), cI M (r 0) 625 (m 0), cI M (r 1) 625 (m 1), cI M (r 2) 625 (m 2), cI M (r 3) 625 (m 3), cI M (r 4) 625 (m 4), cI M (r 5) 625 (m 5), cI M (r 6) 625 (m 6)]) := by
  refine kCI.of [(0, .ref t), (1, .int (zI w)), (2, .int (zI h)), (3, .int (zI x))] (by decide) (Nat.le_of_ble_eq_true rfl) rfl (fun E gg hret => ?_)
  have r1_hw := hw.1
  have r2_hw := hw.2
  have r1_hh := hh.1
  have r2_hh := hh.2
  refine z_iload_n (pc := 0) 3 gg dX1_sheetsOf_0 rfl rfl ?_
  refine z_if_lt (pc := 1) 14 gg dX1_sheetsOf_1 (by decide) ⟨by omega, by omega⟩ (fun h1 => ?_) (fun h1 => ?_)
  · exfalso; omega
  · refine z_iload_n (pc := 4) 3 gg dX1_sheetsOf_4 rfl rfl ?_
    refine z_bipush (pc := 5) gg dX1_sheetsOf_5 (by decide +kernel) ?_
    refine z_icmp_ge (pc := 7) 14 gg dX1_sheetsOf_7 (by decide) ⟨by omega, by omega⟩ ⟨by omega, by omega⟩ (fun h7 => ?_) (fun h7 => ?_)
    · exfalso; omega
    · refine z_iconst (pc := 10) gg dX1_sheetsOf_10 ?_
      refine z_goto (pc := 11) 15 gg dX1_sheetsOf_11 (by decide) ?_
      refine z_istore (pc := 15) [(4, .int (zI 1)), (0, .ref t), (1, .int (zI w)), (2, .int (zI h)), (3, .int (zI x))] gg dX1_sheetsOf_15 (Nat.le_of_ble_eq_true rfl) rfl ?_
      refine z_iload (pc := 17) 0 gg dX1_sheetsOf_17 rfl ?_
      refine z_if_eq (pc := 19) 45 gg dX1_sheetsOf_19 (by decide) ⟨by omega, by omega⟩ (fun h19 => ?_) (fun h19 => ?_)
      · exfalso; omega
      · refine z_iload_n (pc := 22) 2 gg dX1_sheetsOf_22 rfl rfl ?_
        refine z_iload_n (pc := 23) 3 gg dX1_sheetsOf_23 rfl rfl ?_
        refine z_callS (pc := 24) (As := [.int (zI w), .int (zI h)]) (st := []) gg (c_S_hasSides M w h (by first | assumption | omega | exact ⟨by omega, by omega⟩) (by first | assumption | omega | exact ⟨by omega, by omega⟩)) ys_8_hasSides ml_X1_40 dX1_sheetsOf_24 (by decide) (Nat.le_of_ble_eq_true rfl) (Nat.le_of_ble_eq_true rfl) (Nat.le_of_ble_eq_true rfl) rfl rfl (fun z24 u24 hz24 => ?_)
        refine z_if_eq (pc := 27) 45 gg dX1_sheetsOf_27 (by decide) ⟨by omega, by omega⟩ (fun h27 => ?_) (fun h27 => ?_)
        · refine z_iconst (pc := 45) gg dX1_sheetsOf_45 ?_
          exact hret (-1) () 46 _ _ _ (Nat.le_of_ble_eq_true rfl) (Nat.le_of_ble_eq_true rfl) dX1_sheetsOf_46 rfl (by omega)
        · refine z_aload_n (pc := 30) 1 gg dX1_sheetsOf_30 rfl rfl ?_
          refine z_get (pc := 31) 0 gg fl_X1_19 dX1_sheetsOf_31 rfl rfl ?_
          refine z_iload_n (pc := 34) 4 gg dX1_sheetsOf_34 rfl rfl ?_
          refine z_grow (pc := 35) 2 x.toNat gg dX1_sheetsOf_35 rfl (by omega) (by omega) ?_
          refine z_iload_n (pc := 36) 2 gg dX1_sheetsOf_36 rfl rfl ?_
          refine z_iload_n (pc := 37) 3 gg dX1_sheetsOf_37 rfl rfl ?_
          refine z_callS (pc := 38) (As := [.int (zI w), .int (zI h)]) (st := [.ref (r x.toNat)]) gg (c_C_place M w h ) ys_1_place ml_X1_44 dX1_sheetsOf_38 (by decide) (Nat.le_of_ble_eq_true rfl) (Nat.le_of_ble_eq_true rfl) (Nat.le_of_ble_eq_true rfl) rfl rfl (fun z38 u38 hz38 => ?_)
          refine z_iald (pc := 41) (3 + x.toNat) (w.toNat * 25 + h.toNat) gg dX1_sheetsOf_41 (fam_at (by omega)) (by omega) (by omega) (by decide) ?_
          refine z_goto (pc := 42) 46 gg dX1_sheetsOf_42 (by decide) ?_
          exact hret (m x.toNat (w.toNat * 25 + h.toNat)) () 46 _ _ _ (Nat.le_of_ble_eq_true rfl) (Nat.le_of_ble_eq_true rfl) dX1_sheetsOf_46 rfl (by omega)
set_option maxHeartbeats 4000000 in
set_option maxRecDepth 100000 in
theorem c_C_tryCut_yes (M : KM) (t wo ma : Nat) (r : Nat → Nat) (kn bw f1 f2 : Int) (wf : Nat → Int) (m : Nat → Nat → Int) (a b : Int) (ha : 0 ≤ a ∧ a < 625) (hb : 0 ≤ b ∧ b < 625) (hab : 0 ≤ wf a.toNat ∧ wf a.toNat ≤ 600000 ∧ 0 ≤ wf b.toNat ∧ wf b.toNat ≤ 600000) (hw : 0 ≤ bw ∧ bw ≤ 2000000) (hc : bw < wf a.toNat + wf b.toNat) : kCV M yX1_tryCut cX1_tryCut 4 1 0 0 [cO 1 t [.ref wo, .ref ma, .int (zI kn), .int (zI bw), .int (zI f1), .int (zI f2)], cI M wo 625 wf, cG M ma 7 (gr r), cI M (r 0) 625 (m 0), cI M (r 1) 625 (m 1), cI M (r 2) 625 (m 2), cI M (r 3) 625 (m 3), cI M (r 4) 625 (m 4), cI M (r 5) 625 (m 5), cI M (r 6) 625 (m 6)] [.ref t, .int (zI a), .int (zI b)] (fun u : Unit => True) (fun u => [cO 1 t [.ref wo, .ref ma, .int (zI kn), .int (zI (wf a.toNat + wf b.toNat)), .int (zI a), .int (zI b)], cI M wo 625 wf, cG M ma 7 (gr r), cI M (r 0) 625 (m 0), cI M (r 1) 625 (m 1), cI M (r 2) 625 (m 2), cI M (r 3) 625 (m 3), cI M (r 4) 625 (m 4), cI M (r 5) 625 (m 5), cI M (r 6) 625 (m 6)]) := by
  refine kCV.of [(0, .ref t), (1, .int (zI a)), (2, .int (zI b))] (by decide) (Nat.le_of_ble_eq_true rfl) rfl (fun E gg gn hret => ?_)
  refine z_iload_n (pc := 0) 1 gg dX1_tryCut_0 rfl rfl ?_
  refine z_callS (pc := 1) (As := [.int (zI a)]) (st := []) gg (c_C_isPlace M a (by first | assumption | omega | exact ⟨by omega, by omega⟩)) ys_1_isPlace ml_X1_59 dX1_tryCut_1 (by decide) (Nat.le_of_ble_eq_true rfl) (Nat.le_of_ble_eq_true rfl) (Nat.le_of_ble_eq_true rfl) rfl rfl (fun z1 u1 hz1 => ?_)
  refine z_if_eq (pc := 4) 14 gg dX1_tryCut_4 (by decide) ⟨by omega, by omega⟩ (fun h4 => ?_) (fun h4 => ?_)
  · exfalso; omega
  · refine z_iload_n (pc := 7) 2 gg dX1_tryCut_7 rfl rfl ?_
    refine z_callS (pc := 8) (As := [.int (zI b)]) (st := []) gg (c_C_isPlace M b (by first | assumption | omega | exact ⟨by omega, by omega⟩)) ys_1_isPlace ml_X1_59 dX1_tryCut_8 (by decide) (Nat.le_of_ble_eq_true rfl) (Nat.le_of_ble_eq_true rfl) (Nat.le_of_ble_eq_true rfl) rfl rfl (fun z8 u8 hz8 => ?_)
    refine z_if_ne (pc := 11) 15 gg dX1_tryCut_11 (by decide) ⟨by omega, by omega⟩ (fun h11 => ?_) (fun h11 => ?_)
    · refine z_aload_n (pc := 15) 0 gg dX1_tryCut_15 rfl rfl ?_
      refine z_get (pc := 16) 0 gg fl_X1_13 dX1_tryCut_16 rfl rfl ?_
      refine z_iload_n (pc := 19) 1 gg dX1_tryCut_19 rfl rfl ?_
      refine z_iald (pc := 20) 1 a.toNat gg dX1_tryCut_20 rfl (by omega) (by omega) (by decide) ?_
      refine z_aload_n (pc := 21) 0 gg dX1_tryCut_21 rfl rfl ?_
      refine z_get (pc := 22) 0 gg fl_X1_13 dX1_tryCut_22 rfl rfl ?_
      refine z_iload_n (pc := 25) 2 gg dX1_tryCut_25 rfl rfl ?_
      refine z_iald (pc := 26) 1 b.toNat gg dX1_tryCut_26 rfl (by omega) (by omega) (by decide) ?_
      refine z_iadd (pc := 27) gg dX1_tryCut_27 ?_
      refine z_istore_n (pc := 28) [(3, .int (zI ((wf a.toNat) + (wf b.toNat)))), (0, .ref t), (1, .int (zI a)), (2, .int (zI b))] gg dX1_tryCut_28 rfl (Nat.le_of_ble_eq_true rfl) rfl ?_
      refine z_iload_n (pc := 29) 0 gg dX1_tryCut_29 rfl rfl ?_
      refine z_aload_n (pc := 30) 1 gg dX1_tryCut_30 rfl rfl ?_
      refine z_get (pc := 31) 0 gg fl_X1_26 dX1_tryCut_31 rfl rfl ?_
      refine z_icmp_le (pc := 34) 52 gg dX1_tryCut_34 (by decide) ⟨by omega, by omega⟩ ⟨by omega, by omega⟩ (fun h34 => ?_) (fun h34 => ?_)
      · exfalso; omega
      · refine z_aload_n (pc := 37) 1 gg dX1_tryCut_37 rfl rfl ?_
        refine z_iload_n (pc := 38) 0 gg dX1_tryCut_38 rfl rfl ?_
        refine z_put (pc := 39) 0 [cO 1 t [.ref wo, .ref ma, .int (zI kn), .int (zI ((wf a.toNat) + (wf b.toNat))), .int (zI f1), .int (zI f2)], cI M wo 625 wf, cG M ma 7 (gr r), cI M (r 0) 625 (m 0), cI M (r 1) 625 (m 1), cI M (r 2) 625 (m 2), cI M (r 3) 625 (m 3), cI M (r 4) 625 (m 4), cI M (r 5) 625 (m 5), cI M (r 6) 625 (m 6)] gg fp_X1_26 dX1_tryCut_39 rfl rfl rfl (Nat.le_of_ble_eq_true rfl) rfl ?_
        refine z_aload_n (pc := 42) 1 gg dX1_tryCut_42 rfl rfl ?_
        refine z_iload_n (pc := 43) 2 gg dX1_tryCut_43 rfl rfl ?_
        refine z_put (pc := 44) 0 [cO 1 t [.ref wo, .ref ma, .int (zI kn), .int (zI ((wf a.toNat) + (wf b.toNat))), .int (zI a), .int (zI f2)], cI M wo 625 wf, cG M ma 7 (gr r), cI M (r 0) 625 (m 0), cI M (r 1) 625 (m 1), cI M (r 2) 625 (m 2), cI M (r 3) 625 (m 3), cI M (r 4) 625 (m 4), cI M (r 5) 625 (m 5), cI M (r 6) 625 (m 6)] gg fp_X1_30 dX1_tryCut_44 rfl rfl rfl (Nat.le_of_ble_eq_true rfl) rfl ?_
        refine z_aload_n (pc := 47) 1 gg dX1_tryCut_47 rfl rfl ?_
        refine z_iload_n (pc := 48) 3 gg dX1_tryCut_48 rfl rfl ?_
        refine z_put (pc := 49) 0 [cO 1 t [.ref wo, .ref ma, .int (zI kn), .int (zI ((wf a.toNat) + (wf b.toNat))), .int (zI a), .int (zI b)], cI M wo 625 wf, cG M ma 7 (gr r), cI M (r 0) 625 (m 0), cI M (r 1) 625 (m 1), cI M (r 2) 625 (m 2), cI M (r 3) 625 (m 3), cI M (r 4) 625 (m 4), cI M (r 5) 625 (m 5), cI M (r 6) 625 (m 6)] gg fp_X1_33 dX1_tryCut_49 rfl rfl rfl (Nat.le_of_ble_eq_true rfl) rfl ?_
        exact hret () 52 _ _ _ (Nat.le_of_ble_eq_true rfl) (Nat.le_of_ble_eq_true rfl) dX1_tryCut_52 trivial
    · exfalso; omega
set_option maxHeartbeats 4000000 in
set_option maxRecDepth 100000 in
theorem c_C_tryCut_no (M : KM) (t wo ma : Nat) (r : Nat → Nat) (kn bw f1 f2 : Int) (wf : Nat → Int) (m : Nat → Nat → Int) (a b : Int) (ha : 0 ≤ a ∧ a < 625) (hb : 0 ≤ b ∧ b < 625) (hab : 0 ≤ wf a.toNat ∧ wf a.toNat ≤ 600000 ∧ 0 ≤ wf b.toNat ∧ wf b.toNat ≤ 600000) (hw : 0 ≤ bw ∧ bw ≤ 2000000) (hc : wf a.toNat + wf b.toNat ≤ bw) : kCV M yX1_tryCut cX1_tryCut 4 1 0 0 [cO 1 t [.ref wo, .ref ma, .int (zI kn), .int (zI bw), .int (zI f1), .int (zI f2)], cI M wo 625 wf, cG M ma 7 (gr r), cI M (r 0) 625 (m 0), cI M (r 1) 625 (m 1), cI M (r 2) 625 (m 2), cI M (r 3) 625 (m 3), cI M (r 4) 625 (m 4), cI M (r 5) 625 (m 5), cI M (r 6) 625 (m 6)] [.ref t, .int (zI a), .int (zI b)] (fun u : Unit => True) (fun u => [cO 1 t [.ref wo, .ref ma, .int (zI kn), .int (zI bw), .int (zI f1), .int (zI f2)], cI M wo 625 wf, cG M ma 7 (gr r), cI M (r 0) 625 (m 0), cI M (r 1) 625 (m 1), cI M (r 2) 625 (m 2), cI M (r 3) 625 (m 3), cI M (r 4) 625 (m 4), cI M (r 5) 625 (m 5), cI M (r 6) 625 (m 6)]) := by
  refine kCV.of [(0, .ref t), (1, .int (zI a)), (2, .int (zI b))] (by decide) (Nat.le_of_ble_eq_true rfl) rfl (fun E gg gn hret => ?_)
  refine z_iload_n (pc := 0) 1 gg dX1_tryCut_0 rfl rfl ?_
  refine z_callS (pc := 1) (As := [.int (zI a)]) (st := []) gg (c_C_isPlace M a (by first | assumption | omega | exact ⟨by omega, by omega⟩)) ys_1_isPlace ml_X1_59 dX1_tryCut_1 (by decide) (Nat.le_of_ble_eq_true rfl) (Nat.le_of_ble_eq_true rfl) (Nat.le_of_ble_eq_true rfl) rfl rfl (fun z1 u1 hz1 => ?_)
  refine z_if_eq (pc := 4) 14 gg dX1_tryCut_4 (by decide) ⟨by omega, by omega⟩ (fun h4 => ?_) (fun h4 => ?_)
  · exfalso; omega
  · refine z_iload_n (pc := 7) 2 gg dX1_tryCut_7 rfl rfl ?_
    refine z_callS (pc := 8) (As := [.int (zI b)]) (st := []) gg (c_C_isPlace M b (by first | assumption | omega | exact ⟨by omega, by omega⟩)) ys_1_isPlace ml_X1_59 dX1_tryCut_8 (by decide) (Nat.le_of_ble_eq_true rfl) (Nat.le_of_ble_eq_true rfl) (Nat.le_of_ble_eq_true rfl) rfl rfl (fun z8 u8 hz8 => ?_)
    refine z_if_ne (pc := 11) 15 gg dX1_tryCut_11 (by decide) ⟨by omega, by omega⟩ (fun h11 => ?_) (fun h11 => ?_)
    · refine z_aload_n (pc := 15) 0 gg dX1_tryCut_15 rfl rfl ?_
      refine z_get (pc := 16) 0 gg fl_X1_13 dX1_tryCut_16 rfl rfl ?_
      refine z_iload_n (pc := 19) 1 gg dX1_tryCut_19 rfl rfl ?_
      refine z_iald (pc := 20) 1 a.toNat gg dX1_tryCut_20 rfl (by omega) (by omega) (by decide) ?_
      refine z_aload_n (pc := 21) 0 gg dX1_tryCut_21 rfl rfl ?_
      refine z_get (pc := 22) 0 gg fl_X1_13 dX1_tryCut_22 rfl rfl ?_
      refine z_iload_n (pc := 25) 2 gg dX1_tryCut_25 rfl rfl ?_
      refine z_iald (pc := 26) 1 b.toNat gg dX1_tryCut_26 rfl (by omega) (by omega) (by decide) ?_
      refine z_iadd (pc := 27) gg dX1_tryCut_27 ?_
      refine z_istore_n (pc := 28) [(3, .int (zI ((wf a.toNat) + (wf b.toNat)))), (0, .ref t), (1, .int (zI a)), (2, .int (zI b))] gg dX1_tryCut_28 rfl (Nat.le_of_ble_eq_true rfl) rfl ?_
      refine z_iload_n (pc := 29) 0 gg dX1_tryCut_29 rfl rfl ?_
      refine z_aload_n (pc := 30) 1 gg dX1_tryCut_30 rfl rfl ?_
      refine z_get (pc := 31) 0 gg fl_X1_26 dX1_tryCut_31 rfl rfl ?_
      refine z_icmp_le (pc := 34) 52 gg dX1_tryCut_34 (by decide) ⟨by omega, by omega⟩ ⟨by omega, by omega⟩ (fun h34 => ?_) (fun h34 => ?_)
      · exact hret () 52 _ _ _ (Nat.le_of_ble_eq_true rfl) (Nat.le_of_ble_eq_true rfl) dX1_tryCut_52 trivial
      · exfalso; omega
    · exfalso; omega
set_option maxHeartbeats 4000000 in
set_option maxRecDepth 100000 in
theorem c_C_writeWhole (M : KM) (t wo ma : Nat) (r : Nat → Nat) (kn bw f1 f2 : Int) (wf : Nat → Int) (m : Nat → Nat → Int) (a k : Int) (ha : 0 ≤ a ∧ a < 625) (hk : -1 ≤ k ∧ k < 6) : kCV M yX1_writeWhole cX1_writeWhole 4 0 0 0 [cO 1 t [.ref wo, .ref ma, .int (zI kn), .int (zI bw), .int (zI f1), .int (zI f2)], cI M wo 625 wf, cG M ma 7 (gr r), cI M (r 0) 625 (m 0), cI M (r 1) 625 (m 1), cI M (r 2) 625 (m 2), cI M (r 3) 625 (m 3), cI M (r 4) 625 (m 4), cI M (r 5) 625 (m 5), cI M (r 6) 625 (m 6)] [.ref t, .int (zI a), .int (zI k)] (fun u : Nat → Nat → Int => ∀ i, i < 7 → u i = zU (m i) a.toNat (if (i : Int) = k then 1 else 0)) (fun u => [cO 1 t [.ref wo, .ref ma, .int (zI kn), .int (zI bw), .int (zI f1), .int (zI f2)], cI M wo 625 (zU wf a.toNat bw), cG M ma 7 (gr r), cI M (r 0) 625 (u 0), cI M (r 1) 625 (u 1), cI M (r 2) 625 (u 2), cI M (r 3) 625 (u 3), cI M (r 4) 625 (u 4), cI M (r 5) 625 (u 5), cI M (r 6) 625 (u 6)]) := by
  refine kCV.of [(0, .ref t), (1, .int (zI a)), (2, .int (zI k))] (by decide) (Nat.le_of_ble_eq_true rfl) rfl (fun E gg gn hret => ?_)
  refine z_aload_n (pc := 0) 0 gg dX1_writeWhole_0 rfl rfl ?_
  refine z_get (pc := 1) 0 gg fl_X1_13 dX1_writeWhole_1 rfl rfl ?_
  refine z_iload_n (pc := 4) 1 gg dX1_writeWhole_4 rfl rfl ?_
  refine z_aload_n (pc := 5) 0 gg dX1_writeWhole_5 rfl rfl ?_
  refine z_get (pc := 6) 0 gg fl_X1_26 dX1_writeWhole_6 rfl rfl ?_
  refine z_iast (pc := 9) 1 a.toNat [cO 1 t [.ref wo, .ref ma, .int (zI kn), .int (zI bw), .int (zI f1), .int (zI f2)], cI M wo 625 (zU wf a.toNat bw), cG M ma 7 (gr r), cI M (r 0) 625 (m 0), cI M (r 1) 625 (m 1), cI M (r 2) 625 (m 2), cI M (r 3) 625 (m 3), cI M (r 4) 625 (m 4), cI M (r 5) 625 (m 5), cI M (r 6) 625 (m 6)] gg dX1_writeWhole_9 rfl (by omega) (by omega) (by decide) rfl ?_
  refine z_iconst (pc := 10) gg dX1_writeWhole_10 ?_
  refine z_istore_n (pc := 11) [(3, .int (zI 0)), (0, .ref t), (1, .int (zI a)), (2, .int (zI k))] gg dX1_writeWhole_11 rfl (Nat.le_of_ble_eq_true rfl) rfl ?_
  have loop12 : ∀ (k12 : Nat) (i : Int) (m1 : Nat → Nat → Int), (0 ≤ i ∧ i ≤ 7) → (∀ j, j < i.toNat → m1 j = zU (m j) a.toNat (if (j : Int) = k then 1 else 0)) → (∀ j, i.toNat ≤ j → m1 j = m j) → 7 - i.toNat < k12 → kV M E 4 0 0 [cO 1 t [.ref wo, .ref ma, .int (zI kn), .int (zI bw), .int (zI f1), .int (zI f2)], cI M wo 625 (zU wf a.toNat bw), cG M ma 7 (gr r), cI M (r 0) 625 (m1 0), cI M (r 1) 625 (m1 1), cI M (r 2) 625 (m1 2), cI M (r 3) 625 (m1 3), cI M (r 4) 625 (m1 4), cI M (r 5) 625 (m1 5), cI M (r 6) 625 (m1 6)] [(3, .int (zI i)), (0, .ref t), (1, .int (zI a)), (2, .int (zI k))] 12 [] := by
    intro k12
    induction k12 with
    | zero => intro i m1 hi k1 k2 hm12; exact absurd hm12 (Nat.not_lt_zero _)
    | succ k12 ih12 =>
      intro i m1 hi k1 k2 hm12
      refine z_iload_n (pc := 12) 0 gg dX1_writeWhole_12 rfl rfl ?_
      refine z_bipush (pc := 13) gg dX1_writeWhole_13 (by decide +kernel) ?_
      refine z_icmp_gt (pc := 15) 42 gg dX1_writeWhole_15 (by decide) ⟨by omega, by omega⟩ ⟨by omega, by omega⟩ (fun h15 => ?_) (fun h15 => ?_)
      · exact hret m1 42 _ _ _ (Nat.le_of_ble_eq_true rfl) (Nat.le_of_ble_eq_true rfl) dX1_writeWhole_42 (fun j hj => k1 j (by omega))
      · refine z_aload_n (pc := 18) 1 gg dX1_writeWhole_18 rfl rfl ?_
        refine z_get (pc := 19) 0 gg fl_X1_19 dX1_writeWhole_19 rfl rfl ?_
        refine z_iload_n (pc := 22) 0 gg dX1_writeWhole_22 rfl rfl ?_
        refine z_grow (pc := 23) 2 i.toNat gg dX1_writeWhole_23 rfl (by omega) (by omega) ?_
        refine z_iload_n (pc := 24) 2 gg dX1_writeWhole_24 rfl rfl ?_
        refine z_iload_n (pc := 25) 0 gg dX1_writeWhole_25 rfl rfl ?_
        refine z_iload_n (pc := 26) 3 gg dX1_writeWhole_26 rfl rfl ?_
        refine z_icmp_ne (pc := 27) 34 gg dX1_writeWhole_27 (by decide) ⟨by omega, by omega⟩ ⟨by omega, by omega⟩ (fun h27 => ?_) (fun h27 => ?_)
        · refine z_iconst (pc := 34) gg dX1_writeWhole_34 ?_
          refine z_iast (pc := 35) (3 + i.toNat) a.toNat [cO 1 t [.ref wo, .ref ma, .int (zI kn), .int (zI bw), .int (zI f1), .int (zI f2)], cI M wo 625 (zU wf a.toNat bw), cG M ma 7 (gr r), cI M (r 0) 625 ((upR m1 i.toNat (zU (m1 i.toNat) a.toNat 0)) 0), cI M (r 1) 625 ((upR m1 i.toNat (zU (m1 i.toNat) a.toNat 0)) 1), cI M (r 2) 625 ((upR m1 i.toNat (zU (m1 i.toNat) a.toNat 0)) 2), cI M (r 3) 625 ((upR m1 i.toNat (zU (m1 i.toNat) a.toNat 0)) 3), cI M (r 4) 625 ((upR m1 i.toNat (zU (m1 i.toNat) a.toNat 0)) 4), cI M (r 5) 625 ((upR m1 i.toNat (zU (m1 i.toNat) a.toNat 0)) 5), cI M (r 6) 625 ((upR m1 i.toNat (zU (m1 i.toNat) a.toNat 0)) 6)] gg dX1_writeWhole_35 (fam_at (m := m1) (by omega)) (by omega) (by omega) (by decide) (fam_set (by omega) _) ?_
          refine z_iinc (pc := 36) 0 [(3, .int (zI (i + 1))), (0, .ref t), (1, .int (zI a)), (2, .int (zI k))] gg dX1_writeWhole_36 rfl (Nat.le_of_ble_eq_true rfl) rfl ?_
          refine z_goto (pc := 39) 12 gg dX1_writeWhole_39 (by decide) ?_
          exact ih12 (i + 1) (upR m1 i.toNat (zU (m1 i.toNat) a.toNat 0)) (by omega) (fun j hj => by
          by_cases e : j = i.toNat
          · rw [e, upR_s, k2 _ (Nat.le_refl _), if_neg (by omega)]
          · rw [upR_n _ _ e]; exact k1 j (by omega)) (fun j hj => by rw [upR_n _ _ (by omega)]; exact k2 j (by omega)) (by omega)
        · refine z_iconst (pc := 30) gg dX1_writeWhole_30 ?_
          refine z_goto (pc := 31) 35 gg dX1_writeWhole_31 (by decide) ?_
          refine z_iast (pc := 35) (3 + i.toNat) a.toNat [cO 1 t [.ref wo, .ref ma, .int (zI kn), .int (zI bw), .int (zI f1), .int (zI f2)], cI M wo 625 (zU wf a.toNat bw), cG M ma 7 (gr r), cI M (r 0) 625 ((upR m1 i.toNat (zU (m1 i.toNat) a.toNat 1)) 0), cI M (r 1) 625 ((upR m1 i.toNat (zU (m1 i.toNat) a.toNat 1)) 1), cI M (r 2) 625 ((upR m1 i.toNat (zU (m1 i.toNat) a.toNat 1)) 2), cI M (r 3) 625 ((upR m1 i.toNat (zU (m1 i.toNat) a.toNat 1)) 3), cI M (r 4) 625 ((upR m1 i.toNat (zU (m1 i.toNat) a.toNat 1)) 4), cI M (r 5) 625 ((upR m1 i.toNat (zU (m1 i.toNat) a.toNat 1)) 5), cI M (r 6) 625 ((upR m1 i.toNat (zU (m1 i.toNat) a.toNat 1)) 6)] gg dX1_writeWhole_35 (fam_at (m := m1) (by omega)) (by omega) (by omega) (by decide) (fam_set (by omega) _) ?_
          refine z_iinc (pc := 36) 0 [(3, .int (zI (i + 1))), (0, .ref t), (1, .int (zI a)), (2, .int (zI k))] gg dX1_writeWhole_36 rfl (Nat.le_of_ble_eq_true rfl) rfl ?_
          refine z_goto (pc := 39) 12 gg dX1_writeWhole_39 (by decide) ?_
          exact ih12 (i + 1) (upR m1 i.toNat (zU (m1 i.toNat) a.toNat 1)) (by omega) (fun j hj => by
          by_cases e : j = i.toNat
          · rw [e, upR_s, k2 _ (Nat.le_refl _), if_pos (by omega)]
          · rw [upR_n _ _ e]; exact k1 j (by omega)) (fun j hj => by rw [upR_n _ _ (by omega)]; exact k2 j (by omega)) (by omega)
  exact loop12 _ 0 m (by omega) (fun j hj => absurd hj (by omega)) (fun j _ => rfl) (Nat.lt_succ_self _)
set_option maxHeartbeats 4000000 in
set_option maxRecDepth 100000 in
theorem c_C_writeCut (M : KM) (t wo ma : Nat) (r : Nat → Nat) (kn bw f1 f2 : Int) (wf : Nat → Int) (m : Nat → Nat → Int) (a : Int) (ha : 0 ≤ a ∧ a < 625) (h1 : 0 ≤ f1 ∧ f1 < 625 ∧ f1 ≠ a) (h2 : 0 ≤ f2 ∧ f2 < 625 ∧ f2 ≠ a) : kCV M yX1_writeCut cX1_writeCut 3 0 0 0 [cO 1 t [.ref wo, .ref ma, .int (zI kn), .int (zI bw), .int (zI f1), .int (zI f2)], cI M wo 625 wf, cG M ma 7 (gr r), cI M (r 0) 625 (m 0), cI M (r 1) 625 (m 1), cI M (r 2) 625 (m 2), cI M (r 3) 625 (m 3), cI M (r 4) 625 (m 4), cI M (r 5) 625 (m 5), cI M (r 6) 625 (m 6)] [.ref t, .int (zI a)] (fun u : Nat → Nat → Int => ∀ i, i < 7 → u i = zU (m i) a.toNat (m i f1.toNat + m i f2.toNat + (if i = 6 then 1 else 0))) (fun u => [cO 1 t [.ref wo, .ref ma, .int (zI kn), .int (zI bw), .int (zI f1), .int (zI f2)], cI M wo 625 (zU wf a.toNat bw), cG M ma 7 (gr r), cI M (r 0) 625 (u 0), cI M (r 1) 625 (u 1), cI M (r 2) 625 (u 2), cI M (r 3) 625 (u 3), cI M (r 4) 625 (u 4), cI M (r 5) 625 (u 5), cI M (r 6) 625 (u 6)]) := by
  refine kCV.of [(0, .ref t), (1, .int (zI a))] (by decide) (Nat.le_of_ble_eq_true rfl) rfl (fun E gg gn hret => ?_)
  refine z_aload_n (pc := 0) 0 gg dX1_writeCut_0 rfl rfl ?_
  refine z_get (pc := 1) 0 gg fl_X1_13 dX1_writeCut_1 rfl rfl ?_
  refine z_iload_n (pc := 4) 1 gg dX1_writeCut_4 rfl rfl ?_
  refine z_aload_n (pc := 5) 0 gg dX1_writeCut_5 rfl rfl ?_
  refine z_get (pc := 6) 0 gg fl_X1_26 dX1_writeCut_6 rfl rfl ?_
  refine z_iast (pc := 9) 1 a.toNat [cO 1 t [.ref wo, .ref ma, .int (zI kn), .int (zI bw), .int (zI f1), .int (zI f2)], cI M wo 625 (zU wf a.toNat bw), cG M ma 7 (gr r), cI M (r 0) 625 (m 0), cI M (r 1) 625 (m 1), cI M (r 2) 625 (m 2), cI M (r 3) 625 (m 3), cI M (r 4) 625 (m 4), cI M (r 5) 625 (m 5), cI M (r 6) 625 (m 6)] gg dX1_writeCut_9 rfl (by omega) (by omega) (by decide) rfl ?_
  refine z_iconst (pc := 10) gg dX1_writeCut_10 ?_
  refine z_istore_n (pc := 11) [(2, .int (zI 0)), (0, .ref t), (1, .int (zI a))] gg dX1_writeCut_11 rfl (Nat.le_of_ble_eq_true rfl) rfl ?_
  have loop12 : ∀ (k12 : Nat) (i : Int) (m1 : Nat → Nat → Int), (0 ≤ i ∧ i ≤ 7) → (∀ j, j < i.toNat → m1 j = zU (m j) a.toNat (m j f1.toNat + m j f2.toNat)) → (∀ j, i.toNat ≤ j → m1 j = m j) → 7 - i.toNat < k12 → kV M E 3 0 0 [cO 1 t [.ref wo, .ref ma, .int (zI kn), .int (zI bw), .int (zI f1), .int (zI f2)], cI M wo 625 (zU wf a.toNat bw), cG M ma 7 (gr r), cI M (r 0) 625 (m1 0), cI M (r 1) 625 (m1 1), cI M (r 2) 625 (m1 2), cI M (r 3) 625 (m1 3), cI M (r 4) 625 (m1 4), cI M (r 5) 625 (m1 5), cI M (r 6) 625 (m1 6)] [(2, .int (zI i)), (0, .ref t), (1, .int (zI a))] 12 [] := by
    intro k12
    induction k12 with
    | zero => intro i m1 hi k1 k2 hm12; exact absurd hm12 (Nat.not_lt_zero _)
    | succ k12 ih12 =>
      intro i m1 hi k1 k2 hm12
      refine z_iload_n (pc := 12) 0 gg dX1_writeCut_12 rfl rfl ?_
      refine z_bipush (pc := 13) gg dX1_writeCut_13 (by decide +kernel) ?_
      refine z_icmp_gt (pc := 15) 55 gg dX1_writeCut_15 (by decide) ⟨by omega, by omega⟩ ⟨by omega, by omega⟩ (fun h15 => ?_) (fun h15 => ?_)
      · refine z_aload_n (pc := 55) 1 gg dX1_writeCut_55 rfl rfl ?_
        refine z_get (pc := 56) 0 gg fl_X1_19 dX1_writeCut_56 rfl rfl ?_
        refine z_bipush (pc := 59) gg dX1_writeCut_59 (by decide +kernel) ?_
        refine z_grow (pc := 61) 2 6 gg dX1_writeCut_61 rfl (by omega) (by omega) ?_
        refine z_iload_n (pc := 62) 2 gg dX1_writeCut_62 rfl rfl ?_
        refine z_dup2 (pc := 63) gg dX1_writeCut_63 rfl rfl ?_
        refine z_iald (pc := 64) (3 + 6) a.toNat gg dX1_writeCut_64 (fam_at (by omega)) (by omega) (by omega) (by decide) ?_
        refine z_iconst (pc := 65) gg dX1_writeCut_65 ?_
        refine z_iadd (pc := 66) gg dX1_writeCut_66 ?_
        refine z_iast (pc := 67) (3 + 6) a.toNat [cO 1 t [.ref wo, .ref ma, .int (zI kn), .int (zI bw), .int (zI f1), .int (zI f2)], cI M wo 625 (zU wf a.toNat bw), cG M ma 7 (gr r), cI M (r 0) 625 ((upR m1 6 (zU (m1 6) a.toNat ((m1 6 a.toNat) + 1))) 0), cI M (r 1) 625 ((upR m1 6 (zU (m1 6) a.toNat ((m1 6 a.toNat) + 1))) 1), cI M (r 2) 625 ((upR m1 6 (zU (m1 6) a.toNat ((m1 6 a.toNat) + 1))) 2), cI M (r 3) 625 ((upR m1 6 (zU (m1 6) a.toNat ((m1 6 a.toNat) + 1))) 3), cI M (r 4) 625 ((upR m1 6 (zU (m1 6) a.toNat ((m1 6 a.toNat) + 1))) 4), cI M (r 5) 625 ((upR m1 6 (zU (m1 6) a.toNat ((m1 6 a.toNat) + 1))) 5), cI M (r 6) 625 ((upR m1 6 (zU (m1 6) a.toNat ((m1 6 a.toNat) + 1))) 6)] gg dX1_writeCut_67 (fam_at (m := m1) (by omega)) (by omega) (by omega) (by decide) (fam_set (by omega) _) ?_
        exact hret (upR m1 6 (zU (m1 6) a.toNat ((m1 6 a.toNat) + 1))) 68 _ _ _ (Nat.le_of_ble_eq_true rfl) (Nat.le_of_ble_eq_true rfl) dX1_writeCut_68 (fun j hj => by
          by_cases e : j = 6
          · rw [e, upR_s, if_pos rfl, k1 6 (by omega)]
            funext x
            unfold zU
            by_cases e2 : x = a.toNat
            · simp [e2]
            · simp [e2]
          · rw [upR_n _ _ e, if_neg e, k1 j (by omega), Int.add_zero])
      · refine z_aload_n (pc := 18) 1 gg dX1_writeCut_18 rfl rfl ?_
        refine z_get (pc := 19) 0 gg fl_X1_19 dX1_writeCut_19 rfl rfl ?_
        refine z_iload_n (pc := 22) 0 gg dX1_writeCut_22 rfl rfl ?_
        refine z_grow (pc := 23) 2 i.toNat gg dX1_writeCut_23 rfl (by omega) (by omega) ?_
        refine z_iload_n (pc := 24) 2 gg dX1_writeCut_24 rfl rfl ?_
        refine z_aload_n (pc := 25) 1 gg dX1_writeCut_25 rfl rfl ?_
        refine z_get (pc := 26) 0 gg fl_X1_19 dX1_writeCut_26 rfl rfl ?_
        refine z_iload_n (pc := 29) 0 gg dX1_writeCut_29 rfl rfl ?_
        refine z_grow (pc := 30) 2 i.toNat gg dX1_writeCut_30 rfl (by omega) (by omega) ?_
        refine z_aload_n (pc := 31) 1 gg dX1_writeCut_31 rfl rfl ?_
        refine z_get (pc := 32) 0 gg fl_X1_30 dX1_writeCut_32 rfl rfl ?_
        refine z_iald (pc := 35) (3 + i.toNat) f1.toNat gg dX1_writeCut_35 (fam_at (by omega)) (by omega) (by omega) (by decide) ?_
        refine z_aload_n (pc := 36) 1 gg dX1_writeCut_36 rfl rfl ?_
        refine z_get (pc := 37) 0 gg fl_X1_19 dX1_writeCut_37 rfl rfl ?_
        refine z_iload_n (pc := 40) 0 gg dX1_writeCut_40 rfl rfl ?_
        refine z_grow (pc := 41) 2 i.toNat gg dX1_writeCut_41 rfl (by omega) (by omega) ?_
        refine z_aload_n (pc := 42) 1 gg dX1_writeCut_42 rfl rfl ?_
        refine z_get (pc := 43) 0 gg fl_X1_33 dX1_writeCut_43 rfl rfl ?_
        refine z_iald (pc := 46) (3 + i.toNat) f2.toNat gg dX1_writeCut_46 (fam_at (by omega)) (by omega) (by omega) (by decide) ?_
        refine z_iadd (pc := 47) gg dX1_writeCut_47 ?_
        refine z_iast (pc := 48) (3 + i.toNat) a.toNat [cO 1 t [.ref wo, .ref ma, .int (zI kn), .int (zI bw), .int (zI f1), .int (zI f2)], cI M wo 625 (zU wf a.toNat bw), cG M ma 7 (gr r), cI M (r 0) 625 ((upR m1 i.toNat (zU (m1 i.toNat) a.toNat ((m1 i.toNat f1.toNat) + (m1 i.toNat f2.toNat)))) 0), cI M (r 1) 625 ((upR m1 i.toNat (zU (m1 i.toNat) a.toNat ((m1 i.toNat f1.toNat) + (m1 i.toNat f2.toNat)))) 1), cI M (r 2) 625 ((upR m1 i.toNat (zU (m1 i.toNat) a.toNat ((m1 i.toNat f1.toNat) + (m1 i.toNat f2.toNat)))) 2), cI M (r 3) 625 ((upR m1 i.toNat (zU (m1 i.toNat) a.toNat ((m1 i.toNat f1.toNat) + (m1 i.toNat f2.toNat)))) 3), cI M (r 4) 625 ((upR m1 i.toNat (zU (m1 i.toNat) a.toNat ((m1 i.toNat f1.toNat) + (m1 i.toNat f2.toNat)))) 4), cI M (r 5) 625 ((upR m1 i.toNat (zU (m1 i.toNat) a.toNat ((m1 i.toNat f1.toNat) + (m1 i.toNat f2.toNat)))) 5), cI M (r 6) 625 ((upR m1 i.toNat (zU (m1 i.toNat) a.toNat ((m1 i.toNat f1.toNat) + (m1 i.toNat f2.toNat)))) 6)] gg dX1_writeCut_48 (fam_at (m := m1) (by omega)) (by omega) (by omega) (by decide) (fam_set (by omega) _) ?_
        refine z_iinc (pc := 49) 0 [(2, .int (zI (i + 1))), (0, .ref t), (1, .int (zI a))] gg dX1_writeCut_49 rfl (Nat.le_of_ble_eq_true rfl) rfl ?_
        refine z_goto (pc := 52) 12 gg dX1_writeCut_52 (by decide) ?_
        exact ih12 (i + 1) (upR m1 i.toNat (zU (m1 i.toNat) a.toNat ((m1 i.toNat f1.toNat) + (m1 i.toNat f2.toNat)))) (by omega) (fun j hj => by
        by_cases e : j = i.toNat
        · rw [e, upR_s, k2 _ (Nat.le_refl _)]
        · rw [upR_n _ _ e]; exact k1 j (by omega)) (fun j hj => by rw [upR_n _ _ (by omega)]; exact k2 j (by omega)) (by omega)
  exact loop12 _ 0 m (by omega) (fun j hj => absurd hj (by omega)) (fun j _ => rfl) (Nat.lt_succ_self _)
end
section
theorem zz_end : True := trivial
end
