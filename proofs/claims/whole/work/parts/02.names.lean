def va_AOA (t : FieldType) (U : State) : Prop := (Cond.arrayOver (.array t)).before #[] U = true
theorem va_AOA.use {t : FieldType} {A : Array Value} {U : State} (h : va_AOA t U) : (Cond.arrayOver (.array t)).before A U = true := h

/-! ===== BEGIN new T[n][m]: the outer array a place, the inner ones among the pooled ===== -/
/-- f, but v at every address of l -/
def vr_up {α : Type} (f : Nat → α) (l : List Nat) (v : α) : Nat → α := fun a => if a ∈ l then v else f a
theorem vr_up_in {α : Type} {f : Nat → α} {l : List Nat} {v : α} {a : Nat} (h : a ∈ l) : vr_up f l v a = v := if_pos h
theorem vr_up_ne {α : Type} {f : Nat → α} {l : List Nat} {v : α} {a : Nat} (h : a ∉ l) : vr_up f l v a = f a := if_neg h
theorem vr_rows {L l : List Nat} {f : Nat → va_E} {e : va_E} (h : ∀ a, a ∈ l → a ∉ L) : va_pl L f ++ l.map (fun a => (a, e)) = va_pl (L ++ l) (vr_up f l e) := by
  unfold va_pl
  rw [List.map_append]
  congr 1
  · apply List.map_congr_left
    intro a ha
    rw [vr_up_ne (fun q => h a q ha)]
  · apply List.map_congr_left
    intro a ha
    rw [vr_up_in ha]
theorem vr_lay {X rows : va_W} {x : Nat × va_E} {pl : va_W} {D : va_G} {cl : List vw_C} {H : Heap} (hP : va_P D cl (((X ++ pl) ++ [x]) ++ rows) H) : va_P D cl ((X ++ [x]) ++ (pl ++ rows)) H := by
  rw [List.append_assoc (X ++ pl)] at hP
  have h := va_P.swap hP
  rw [← List.append_assoc X] at h
  have h2 := va_P.swap h
  rw [List.append_assoc (X ++ [x])] at h2
  exact h2
theorem vr_layD {X rows : va_W} {x : Nat × va_E} {pl : va_W} {A : Nat → Prop} (hD : va_D A (((X ++ pl) ++ [x]) ++ rows)) : va_D A ((X ++ [x]) ++ (pl ++ rows)) := by
  rw [List.append_assoc (X ++ pl)] at hD
  have h := va_D.swap hD
  rw [← List.append_assoc X] at h
  have h2 := va_D.swap h
  rw [List.append_assoc (X ++ [x])] at h2
  exact h2
theorem vr_outer (c : ClassId) (N h0 : Nat) : ∀ i : Nat, Jvm.Free.Multi.outerC c N h0 i = arrV c N (fun j => va_rf (if j < i then some (h0 + 1 + j) else none))
  | 0 => by
    show ({ cls := c, slots := Array.replicate N .null, vm := .none } : Cell) = _
    rw [arrV_new]
    refine congrArg (arrV c N) (funext fun j => ?_)
    simp [va_rf]
  | i + 1 => by
    show (Jvm.Free.Multi.outerC c N h0 i).setSlot i (.ref (h0 + 1 + i)) = _
    rw [vr_outer c N h0 i, arrV_store]
    refine congrArg (arrV c N) (funext fun j => ?_)
    by_cases e : j = i
    · subst e
      simp [updV, va_rf]
    · by_cases h : j < i
      · simp [updV, e, h, Nat.lt_succ_of_lt h]
      · simp [updV, e, h, show ¬ j < i + 1 by omega]
section VGM
variable {p : Program} {l : Launch} {e : Env} {R : Room} {s : State} {m : MethodId} {args : Array Value} {below : List Frame} {meth : Method} {c : Code} {H : Heap} {locs : List Loc} {cells slots : Nat} {Q : State → Prop}
variable {cc : ByteArray} {pc : Nat} {ls : Array Slot} {rest : List Value} {D : va_G} {cl : List vw_C} {A : Nat → Prop} {a : Nat} {tys : List (ClassId × FieldType)} {ws : va_W} {H0 : Heap}
theorem va_mna {X : va_W} {L : List Nat} {f : Nat → va_E} {cc : ByteArray} (hexec : p.tables.exec = Jvm.exec) (hb : c.code = cc) {own : String} {index : Nat} {ty : FieldType} {cy : ClassId} (hown : s.vm.findClass own = some m.cls) (hclink : (Cond.classLink own index ("[" ++ (FieldType.array ty).toString)).before args s = true) (hover : va_AOA ty s) (harr : (Cond.arrayClass ty).before args s = true) (hcy : s.vm.findClass (FieldType.array ty).toString = some cy)
    (hK : va_K D cl tys s) (hP : va_P D cl (X ++ va_pl L f) H) (hD : va_D A (X ++ va_pl L f)) (hS : va_S A H0 H locs) (hA : ∀ q, H0.size ≤ q → A q) {n k : Int32} {N' K' : Nat} {z : vp_A} (hn : ¬ n < 0) (hk : ¬ k < 0) (hN : n.toNatClampNeg = N') (hM : k.toNatClampNeg = K')
    (hb1 : N' * 4 ≤ 536870912) (hb2 : K' * componentBytes ty ≤ 536870912) (hb3 : K' ≤ 536870912) (hdf : fits ty (defaultValue ty) = true) (hdd : (defaultValue ty).isDefault = true) (hcells : cells + (1 + N') ≤ R.cells) (hslots : slots + (N' + N' * K') ≤ R.slots) (hz : ∀ c : ClassId, Jvm.Free.Multi.innerC c K' (defaultValue ty) = vp_cell c z) (hdg : decode cc pc = .ok (.multianewarray index 2, 4))
    (kk : ∀ (q : Nat) (r : Nat → Nat) (cA : ClassId) (H1 : Heap), (∀ i j : Nat, i < N' → j < N' → r i = r j → i = j) → (∀ i : Nat, i < N' → r i ∉ L) → va_K D cl (tys ++ [(cA, .array ty)]) s →
      va_P D cl ((X ++ [(q, .inl (cA, N', .inr (.inr (.inr (.inr (fun i => if i < N' then some (r i) else none))))))]) ++ va_pl (L ++ (List.range N').map r) (vr_up f ((List.range N').map r) (.inl (cy, z)))) H1 → va_D A ((X ++ [(q, .inl (cA, N', .inr (.inr (.inr (.inr (fun i => if i < N' then some (r i) else none))))))]) ++ va_pl (L ++ (List.range N').map r) (vr_up f ((List.range N').map r) (.inl (cy, z)))) → va_S A H0 H1 locs →
      W p l e R s m args below meth c H1 locs (cells + 1 + N') (slots + N' + N' * K') Q (F0 m (pc + 4) ls (.ref q :: rest))) : W p l e R s m args below meth c H locs cells slots Q (F0 m pc ls (.int k :: .int n :: rest)) := by
  subst hN
  subst hM
  intro T hT Xs
  obtain ⟨vm₁, cA, comp, -, fA, fC, hO, -, X', step⟩ := Xs.multianewarray2F hexec hown hclink (va_AOA.use hover) harr (g := F0 m pc ls (.int k :: .int n :: rest)) rfl (by rw [hb]; exact hdg) rfl hn hk hb1 hb2 hb3 hdf hdd hcells hslots
  have ec : some cy = some comp := hcy.symm.trans fC
  cases ec
  generalize hF : Jvm.Free.Multi.fill (T.setVm vm₁) cA cy n.toNatClampNeg k.toNatClampNeg (defaultValue ty) n.toNatClampNeg = F at X' step
  have hTh : (T.setVm vm₁).heap = H := hT
  obtain ⟨f1, f2, -, -⟩ := Jvm.Free.Multi.fill_facts (T.setVm vm₁) cA cy n.toNatClampNeg k.toNatClampNeg (defaultValue ty) n.toNatClampNeg
  rw [hF, hTh] at f1 f2
  have hold : ∀ x : Nat, x < H.size → F.heap[x]? = H[x]? := fun x hx => by
    have := Jvm.Free.Multi.fill_old (T.setVm vm₁) cA cy n.toNatClampNeg k.toNatClampNeg (defaultValue ty) (a := x) (by rw [hTh]; exact hx) n.toNatClampNeg
    rw [hF, hTh] at this
    exact this
  have hrow : ∀ j : Nat, j < n.toNatClampNeg → F.heap[H.size + 1 + j]? = some (vp_cell cy z) := fun j hj => by
    have := Jvm.Free.Multi.fill_inner (T.setVm vm₁) cA cy n.toNatClampNeg k.toNatClampNeg (defaultValue ty) n.toNatClampNeg j hj
    rw [hF, hTh, hz] at this
    exact this
  have hout : Jvm.Free.Multi.outerC cA n.toNatClampNeg H.size n.toNatClampNeg = vp_cell cA (n.toNatClampNeg, .inr (.inr (.inr (.inr (fun i => if i < n.toNatClampNeg then some (H.size + 1 + i) else none))))) := by
    rw [vp_cell_q]
    exact vr_outer cA n.toNatClampNeg H.size n.toNatClampNeg
  rw [hout] at f2
  have hlt : ∀ a, a ∈ L → a < H.size := fun a ha => by
    obtain ⟨k9, hk9⟩ := va_pl_get (X := X) (f := f) ha
    exact (hP k9 _ hk9).lt
  have hnl : ∀ i : Nat, i < n.toNatClampNeg → H.size + 1 + i ∉ L := fun i _ h => by
    have := hlt _ h
    omega
  have hnm : ∀ a, a ∈ (List.range n.toNatClampNeg).map (fun i => H.size + 1 + i) → a ∉ L := fun a ha h => by
    obtain ⟨i, -, rfl⟩ := List.mem_map.mp ha
    have := hlt _ h
    omega
  have hP0 : va_P D cl (X ++ va_pl L f) F.heap := hP.kept (fun k9 x hx => hold x.1 ((hP k9 x hx).lt))
  have hP1 : va_P D cl ((X ++ va_pl L f) ++ [(H.size, .inl (cA, n.toNatClampNeg, .inr (.inr (.inr (.inr (fun i => if i < n.toNatClampNeg then some (H.size + 1 + i) else none))))))]) F.heap := hP0.app (fun k9 x hx => by
    have h0 : k9 < 1 := (List.getElem?_eq_some_iff.mp hx).1
    rw [show k9 = 0 by omega] at hx
    cases hx
    exact f2)
  have hP2 : va_P D cl (((X ++ va_pl L f) ++ [(H.size, .inl (cA, n.toNatClampNeg, .inr (.inr (.inr (.inr (fun i => if i < n.toNatClampNeg then some (H.size + 1 + i) else none))))))]) ++ ((List.range n.toNatClampNeg).map (fun i => H.size + 1 + i)).map (fun a => (a, .inl (cy, z)))) F.heap := hP1.app (fun k9 x hx => by
    obtain ⟨a, ha, rfl⟩ := List.mem_map.mp (List.mem_of_getElem? hx)
    obtain ⟨i, hi, rfl⟩ := List.mem_map.mp ha
    exact hrow i (List.mem_range.mp hi))
  have hD2 : va_D A (((X ++ va_pl L f) ++ [(H.size, .inl (cA, n.toNatClampNeg, .inr (.inr (.inr (.inr (fun i => if i < n.toNatClampNeg then some (H.size + 1 + i) else none))))))]) ++ ((List.range n.toNatClampNeg).map (fun i => H.size + 1 + i)).map (fun a => (a, .inl (cy, z)))) := by
    have hD1 := hD.push (e := .inl (cA, n.toNatClampNeg, .inr (.inr (.inr (.inr (fun i => if i < n.toNatClampNeg then some (H.size + 1 + i) else none)))))) hP rfl (hA _ hS.1)
    generalize hW1 : (X ++ va_pl L f) ++ [(H.size, .inl (cA, n.toNatClampNeg, .inr (.inr (.inr (.inr (fun i => if i < n.toNatClampNeg then some (H.size + 1 + i) else none))))))] = W1 at hD1 hP1 ⊢
    have hle : ∀ (k9 : Nat) (x : Nat × va_E), W1[k9]? = some x → x.1 ≤ H.size := fun k9 x hx => by
      rw [← hW1] at hx
      by_cases hl : k9 < (X ++ va_pl L f).length
      · rw [List.getElem?_append_left hl] at hx
        exact Nat.le_of_lt ((hP k9 x hx).lt)
      · rw [List.getElem?_append_right (by omega)] at hx
        have h0 : k9 - (X ++ va_pl L f).length < 1 := (List.getElem?_eq_some_iff.mp hx).1
        rw [show k9 - (X ++ va_pl L f).length = 0 by omega] at hx
        cases hx
        exact Nat.le_refl _
    have hr : ∀ (k9 : Nat) (x : Nat × va_E), (((List.range n.toNatClampNeg).map (fun i => H.size + 1 + i)).map (fun a => ((a, .inl (cy, z)) : Nat × va_E)))[k9]? = some x → x.1 = H.size + 1 + k9 := fun k9 x hx => by
      rw [List.getElem?_map, List.getElem?_map] at hx
      by_cases h9 : k9 < n.toNatClampNeg
      · rw [List.getElem?_range h9] at hx
        cases hx
        rfl
      · have hn0 : (List.range n.toNatClampNeg)[k9]? = none := List.getElem?_eq_none (by rw [List.length_range]; omega)
        rw [hn0] at hx
        cases hx
    refine ⟨fun i j x y hi hj hxy => ?_, fun k9 x hx => ?_⟩
    · by_cases h1 : i < W1.length <;> by_cases h2 : j < W1.length
      · rw [List.getElem?_append_left h1] at hi
        rw [List.getElem?_append_left h2] at hj
        exact hD1.1 i j x y hi hj hxy
      · rw [List.getElem?_append_left h1] at hi
        rw [List.getElem?_append_right (by omega)] at hj
        have := hle _ _ hi
        have := hr _ _ hj
        omega
      · rw [List.getElem?_append_right (by omega)] at hi
        rw [List.getElem?_append_left h2] at hj
        have := hle _ _ hj
        have := hr _ _ hi
        omega
      · rw [List.getElem?_append_right (by omega)] at hi hj
        have := hr _ _ hi
        have := hr _ _ hj
        omega
    · by_cases h1 : k9 < W1.length
      · rw [List.getElem?_append_left h1] at hx
        exact hD1.2 k9 x hx
      · rw [List.getElem?_append_right (by omega)] at hx
        have := hr _ _ hx
        exact hA _ (by have := hS.1; omega)
  have hAr : ArrOfT s cA (.array ty) := fun N9 z9 => by
    obtain ⟨-, k9, hk9, cm9, hkk9⟩ := (hO 0 0 0).1
    exact ⟨(fun q hq => by cases hq), k9, hk9, cm9, hkk9⟩
  have hK2 : va_K D cl (tys ++ [(cA, .array ty)]) s := ⟨hK.1, fun k9 x hx => by
    by_cases hl : k9 < tys.length
    · rw [List.getElem?_append_left hl] at hx
      exact hK.2 k9 x hx
    · rw [List.getElem?_append_right (by omega)] at hx
      have h0 : k9 - tys.length < 1 := (List.getElem?_eq_some_iff.mp hx).1
      rw [show k9 - tys.length = 0 by omega] at hx
      cases hx
      exact ⟨hAr, fA⟩⟩
  obtain ⟨t, a1, b1⟩ := kk H.size (fun i => H.size + 1 + i) cA F.heap (fun i j _ _ h => by have h9 : H.size + 1 + i = H.size + 1 + j := h; omega) hnl hK2 (by rw [← vr_rows hnm]; exact vr_lay hP2) (by rw [← vr_rows hnm]; exact vr_layD hD2) ⟨by rw [f1]; have := hS.1; omega, fun x h1 h2 => (hold x (Nat.lt_of_lt_of_le h1 hS.1)).trans (hS.2.1 x h1 h2), hS.2.2⟩ F rfl X'
  refine ⟨t, step t ?_, b1⟩
  have e : T.heap.size = H.size := by rw [hT]
  rw [e]
  exact a1
end VGM
/-! ===== END ===== -/
def RX0 : String := "ChipBoards$Bins"
def TX0 : u_T := fun k => match k with
  | 0 => ("ChipBoards$Bins", "size", "I", false)
  | 1 => ("ChipBoards$Bins", "grams", "[I", true)
  | 2 => ("ChipBoards$Bins", "damp", "[I", true)
  | _ => ("ChipBoards$Bins", "used", "[Z", true)
def tyX0 : Nat → FieldType := fun k => match k with
  | 0 => .int
  | 1 => .array .int
  | 2 => .array .int
  | _ => .array .boolean
abbrev wsX00 : List Cond := u_ws RX0 TX0 4
theorem nmX0 : ∀ a, a < 4 → ∀ b, b < 4 → a ≠ b → (TX0 a).2.1 ≠ (TX0 b).2.1 := by decide +kernel
theorem tyX0_ok : ∀ k, k < 4 → parseFieldDescriptor (TX0 k).2.2.1 = some (tyX0 k) := by decide +kernel
abbrev cX0_init : ByteArray := prog_2_method_1_code
def yX0_init : MethodName := ⟨RX0, "<init>", "()V"⟩
abbrev cX0_add : ByteArray := prog_2_method_2_code
def yX0_add : MethodName := ⟨RX0, "add", "(IZ)I"⟩
abbrev cX0_has : ByteArray := prog_2_method_3_code
def yX0_has : MethodName := ⟨RX0, "has", "(I)Z"⟩
abbrev cX0_pour : ByteArray := prog_2_method_4_code
def yX0_pour : MethodName := ⟨RX0, "pour", "(II)I"⟩
abbrev cX0_canGive : ByteArray := prog_2_method_5_code
def yX0_canGive : MethodName := ⟨RX0, "canGive", "(IIII)Z"⟩
abbrev cX0_give : ByteArray := prog_2_method_6_code
def yX0_give : MethodName := ⟨RX0, "give", "(II)V"⟩
abbrev cX0_gramsOf : ByteArray := prog_2_method_7_code
def yX0_gramsOf : MethodName := ⟨RX0, "gramsOf", "(I)I"⟩
abbrev cX0_dampOf : ByteArray := prog_2_method_8_code
def yX0_dampOf : MethodName := ⟨RX0, "dampOf", "(I)I"⟩
abbrev cX0_usedPart : ByteArray := prog_2_method_9_code
def yX0_usedPart : MethodName := ⟨RX0, "usedPart", "(II)I"⟩
abbrev cX0_total : ByteArray := prog_2_method_10_code
def yX0_total : MethodName := ⟨RX0, "total", "()I"⟩
abbrev cX0_copyFrom : ByteArray := prog_2_method_11_code
def yX0_copyFrom : MethodName := ⟨RX0, "copyFrom", "(LChipBoards$Bins;)V"⟩
def RX1 : String := "ChipBoards$CutTable"
def TX1 : u_T := fun k => match k with
  | 0 => ("ChipBoards$CutTable", "worth", "[I", true)
  | 1 => ("ChipBoards$CutTable", "made", "[[I", true)
  | 2 => ("ChipBoards$CutTable", "known", "Z", false)
  | 3 => ("ChipBoards$CutTable", "bestWorth", "I", false)
  | 4 => ("ChipBoards$CutTable", "first", "I", false)
  | _ => ("ChipBoards$CutTable", "second", "I", false)
def tyX1 : Nat → FieldType := fun k => match k with
  | 0 => .array .int
  | 1 => .array (.array .int)
  | 2 => .boolean
  | 3 => .int
  | 4 => .int
  | _ => .int
abbrev wsX10 : List Cond := u_ws RX1 TX1 6
theorem nmX1 : ∀ a, a < 6 → ∀ b, b < 6 → a ≠ b → (TX1 a).2.1 ≠ (TX1 b).2.1 := by decide +kernel
theorem tyX1_ok : ∀ k, k < 6 → parseFieldDescriptor (TX1 k).2.2.1 = some (tyX1 k) := by decide +kernel
abbrev cX1_init : ByteArray := prog_3_method_1_code
def yX1_init : MethodName := ⟨RX1, "<init>", "()V"⟩
abbrev cX1_forget : ByteArray := prog_3_method_2_code
def yX1_forget : MethodName := ⟨RX1, "forget", "()V"⟩
abbrev cX1_prepare : ByteArray := prog_3_method_3_code
def yX1_prepare : MethodName := ⟨RX1, "prepare", "(LChipBoards$Sheets;I)V"⟩
abbrev cX1_worthOf : ByteArray := prog_3_method_4_code
def yX1_worthOf : MethodName := ⟨RX1, "worthOf", "(II)I"⟩
abbrev cX1_cutsOf : ByteArray := prog_3_method_5_code
def yX1_cutsOf : MethodName := ⟨RX1, "cutsOf", "(II)I"⟩
abbrev cX1_sheetsOf : ByteArray := prog_3_method_6_code
def yX1_sheetsOf : MethodName := ⟨RX1, "sheetsOf", "(III)I"⟩
abbrev cX1_place : ByteArray := prog_3_method_7_code
def yX1_place : MethodName := ⟨RX1, "place", "(II)I"⟩
abbrev cX1_choose : ByteArray := prog_3_method_8_code
def yX1_choose : MethodName := ⟨RX1, "choose", "(IILChipBoards$Sheets;I)V"⟩
abbrev cX1_isPlace : ByteArray := prog_3_method_9_code
def yX1_isPlace : MethodName := ⟨RX1, "isPlace", "(I)Z"⟩
abbrev cX1_tryCut : ByteArray := prog_3_method_10_code
def yX1_tryCut : MethodName := ⟨RX1, "tryCut", "(II)V"⟩
abbrev cX1_writeWhole : ByteArray := prog_3_method_11_code
def yX1_writeWhole : MethodName := ⟨RX1, "writeWhole", "(II)V"⟩
abbrev cX1_writeCut : ByteArray := prog_3_method_12_code
def yX1_writeCut : MethodName := ⟨RX1, "writeCut", "(I)V"⟩
def RX2 : String := "ChipBoards$Dryer"
def TX2 : u_T := fun k => match k with
  | 0 => ("ChipBoards$Dryer", "leads", "[I", true)
  | 1 => ("ChipBoards$Dryer", "feed", "[Z", true)
  | _ => ("ChipBoards$Dryer", "water", "[Z", true)
def tyX2 : Nat → FieldType := fun k => match k with
  | 0 => .array .int
  | 1 => .array .boolean
  | _ => .array .boolean
abbrev wsX20 : List Cond := u_ws RX2 TX2 3
theorem nmX2 : ∀ a, a < 3 → ∀ b, b < 3 → a ≠ b → (TX2 a).2.1 ≠ (TX2 b).2.1 := by decide +kernel
theorem tyX2_ok : ∀ k, k < 3 → parseFieldDescriptor (TX2 k).2.2.1 = some (tyX2 k) := by decide +kernel
abbrev cX2_init : ByteArray := prog_4_method_1_code
def yX2_init : MethodName := ⟨RX2, "<init>", "()V"⟩
abbrev cX2_isState : ByteArray := prog_4_method_2_code
def yX2_isState : MethodName := ⟨RX2, "isState", "(I)Z"⟩
abbrev cX2_isEvent : ByteArray := prog_4_method_3_code
def yX2_isEvent : MethodName := ⟨RX2, "isEvent", "(I)Z"⟩
abbrev cX2_lead : ByteArray := prog_4_method_4_code
def yX2_lead : MethodName := ⟨RX2, "lead", "(III)Z"⟩
abbrev cX2_equip : ByteArray := prog_4_method_5_code
def yX2_equip : MethodName := ⟨RX2, "equip", "(IZZ)Z"⟩
abbrev cX2_after : ByteArray := prog_4_method_6_code
def yX2_after : MethodName := ⟨RX2, "after", "(II)I"⟩
abbrev cX2_feeds : ByteArray := prog_4_method_7_code
def yX2_feeds : MethodName := ⟨RX2, "feeds", "(I)Z"⟩
abbrev cX2_waters : ByteArray := prog_4_method_8_code
def yX2_waters : MethodName := ⟨RX2, "waters", "(I)Z"⟩
abbrev cX2_copyFrom : ByteArray := prog_4_method_9_code
def yX2_copyFrom : MethodName := ⟨RX2, "copyFrom", "(LChipBoards$Dryer;)V"⟩
def RX3 : String := "ChipBoards$Heating"
def TX3 : u_T := fun k => match k with
  | 0 => ("ChipBoards$Heating", "heat", "[I", true)
  | 1 => ("ChipBoards$Heating", "before", "[I", true)
  | _ => ("ChipBoards$Heating", "cure", "[I", true)
def tyX3 : Nat → FieldType := fun k => match k with
  | 0 => .array .int
  | 1 => .array .int
  | _ => .array .int
abbrev wsX30 : List Cond := u_ws RX3 TX3 3
theorem nmX3 : ∀ a, a < 3 → ∀ b, b < 3 → a ≠ b → (TX3 a).2.1 ≠ (TX3 b).2.1 := by decide +kernel
theorem tyX3_ok : ∀ k, k < 3 → parseFieldDescriptor (TX3 k).2.2.1 = some (tyX3 k) := by decide +kernel
abbrev cX3_init : ByteArray := prog_5_method_1_code
def yX3_init : MethodName := ⟨RX3, "<init>", "()V"⟩
abbrev cX3_begin : ByteArray := prog_5_method_2_code
def yX3_begin : MethodName := ⟨RX3, "begin", "(I)V"⟩
abbrev cX3_tick : ByteArray := prog_5_method_3_code
def yX3_tick : MethodName := ⟨RX3, "tick", "()V"⟩
abbrev cX3_mayOpen : ByteArray := prog_5_method_4_code
def yX3_mayOpen : MethodName := ⟨RX3, "mayOpen", "(II)Z"⟩
abbrev cX3_heatOf : ByteArray := prog_5_method_5_code
def yX3_heatOf : MethodName := ⟨RX3, "heatOf", "(I)I"⟩
abbrev cX3_cureOf : ByteArray := prog_5_method_6_code
def yX3_cureOf : MethodName := ⟨RX3, "cureOf", "(I)I"⟩
abbrev cX3_steamOf : ByteArray := prog_5_method_7_code
def yX3_steamOf : MethodName := ⟨RX3, "steamOf", "(II)I"⟩
def RX4 : String := "ChipBoards$Lots"
def TX4 : u_T := fun k => match k with
  | 0 => ("ChipBoards$Lots", "size", "I", false)
  | _ => ("ChipBoards$Lots", "grams", "[I", true)
def tyX4 : Nat → FieldType := fun k => match k with
  | 0 => .int
  | _ => .array .int
abbrev wsX40 : List Cond := u_ws RX4 TX4 2
theorem nmX4 : ∀ a, a < 2 → ∀ b, b < 2 → a ≠ b → (TX4 a).2.1 ≠ (TX4 b).2.1 := by decide +kernel
theorem tyX4_ok : ∀ k, k < 2 → parseFieldDescriptor (TX4 k).2.2.1 = some (tyX4 k) := by decide +kernel
abbrev cX4_init : ByteArray := prog_6_method_1_code
def yX4_init : MethodName := ⟨RX4, "<init>", "()V"⟩
abbrev cX4_add : ByteArray := prog_6_method_2_code
def yX4_add : MethodName := ⟨RX4, "add", "(I)I"⟩
abbrev cX4_has : ByteArray := prog_6_method_3_code
def yX4_has : MethodName := ⟨RX4, "has", "(I)Z"⟩
abbrev cX4_gramsOf : ByteArray := prog_6_method_4_code
def yX4_gramsOf : MethodName := ⟨RX4, "gramsOf", "(I)I"⟩
abbrev cX4_total : ByteArray := prog_6_method_5_code
def yX4_total : MethodName := ⟨RX4, "total", "()I"⟩
abbrev cX4_draw : ByteArray := prog_6_method_6_code
def yX4_draw : MethodName := ⟨RX4, "draw", "(I)I"⟩
abbrev cX4_copyFrom : ByteArray := prog_6_method_7_code
def yX4_copyFrom : MethodName := ⟨RX4, "copyFrom", "(LChipBoards$Lots;)V"⟩
def RX5 : String := "ChipBoards$Mats"
def TX5 : u_T := fun k => match k with
  | 0 => ("ChipBoards$Mats", "size", "I", false)
  | _ => ("ChipBoards$Mats", "facts", "[I", true)
def tyX5 : Nat → FieldType := fun k => match k with
  | 0 => .int
  | _ => .array .int
abbrev wsX50 : List Cond := u_ws RX5 TX5 2
theorem nmX5 : ∀ a, a < 2 → ∀ b, b < 2 → a ≠ b → (TX5 a).2.1 ≠ (TX5 b).2.1 := by decide +kernel
theorem tyX5_ok : ∀ k, k < 2 → parseFieldDescriptor (TX5 k).2.2.1 = some (tyX5 k) := by decide +kernel
abbrev cX5_init : ByteArray := prog_7_method_1_code
def yX5_init : MethodName := ⟨RX5, "<init>", "()V"⟩
abbrev cX5_isFull : ByteArray := prog_7_method_2_code
def yX5_isFull : MethodName := ⟨RX5, "isFull", "()Z"⟩
abbrev cX5_add : ByteArray := prog_7_method_3_code
def yX5_add : MethodName := ⟨RX5, "add", "()I"⟩
abbrev cX5_has : ByteArray := prog_7_method_4_code
def yX5_has : MethodName := ⟨RX5, "has", "(I)Z"⟩
abbrev cX5_get : ByteArray := prog_7_method_5_code
def yX5_get : MethodName := ⟨RX5, "get", "(II)I"⟩
abbrev cX5_put : ByteArray := prog_7_method_6_code
def yX5_put : MethodName := ⟨RX5, "put", "(III)V"⟩
abbrev cX5_isPressed : ByteArray := prog_7_method_7_code
def yX5_isPressed : MethodName := ⟨RX5, "isPressed", "(I)Z"⟩
abbrev cX5_pressed : ByteArray := prog_7_method_8_code
def yX5_pressed : MethodName := ⟨RX5, "pressed", "()I"⟩
abbrev cX5_withLot : ByteArray := prog_7_method_9_code
def yX5_withLot : MethodName := ⟨RX5, "withLot", "(I)I"⟩
abbrev cX5_copyFrom : ByteArray := prog_7_method_10_code
def yX5_copyFrom : MethodName := ⟨RX5, "copyFrom", "(LChipBoards$Mats;)V"⟩
def RX6 : String := "ChipBoards$Plates"
def TX6 : u_T := fun k => match k with
  | 0 => ("ChipBoards$Plates", "size", "I", false)
  | _ => ("ChipBoards$Plates", "heat", "[I", true)
def tyX6 : Nat → FieldType := fun k => match k with
  | 0 => .int
  | _ => .array .int
abbrev wsX60 : List Cond := u_ws RX6 TX6 2
theorem nmX6 : ∀ a, a < 2 → ∀ b, b < 2 → a ≠ b → (TX6 a).2.1 ≠ (TX6 b).2.1 := by decide +kernel
theorem tyX6_ok : ∀ k, k < 2 → parseFieldDescriptor (TX6 k).2.2.1 = some (tyX6 k) := by decide +kernel
abbrev cX6_init : ByteArray := prog_8_method_1_code
def yX6_init : MethodName := ⟨RX6, "<init>", "()V"⟩
abbrev cX6_add : ByteArray := prog_8_method_2_code
def yX6_add : MethodName := ⟨RX6, "add", "(I)I"⟩
abbrev cX6_has : ByteArray := prog_8_method_3_code
def yX6_has : MethodName := ⟨RX6, "has", "(I)Z"⟩
abbrev cX6_heatOf : ByteArray := prog_8_method_4_code
def yX6_heatOf : MethodName := ⟨RX6, "heatOf", "(I)I"⟩
abbrev cX6_copyFrom : ByteArray := prog_8_method_5_code
def yX6_copyFrom : MethodName := ⟨RX6, "copyFrom", "(LChipBoards$Plates;)V"⟩
def RX7 : String := "ChipBoards$RowSearch"
def TX7 : u_T := fun k => match k with
  | 0 => ("ChipBoards$RowSearch", "seen", "[Z", true)
  | 1 => ("ChipBoards$RowSearch", "queue", "[I", true)
  | 2 => ("ChipBoards$RowSearch", "from", "[I", true)
  | 3 => ("ChipBoards$RowSearch", "by", "[I", true)
  | 4 => ("ChipBoards$RowSearch", "row", "[I", true)
  | _ => ("ChipBoards$RowSearch", "queued", "I", false)
def tyX7 : Nat → FieldType := fun k => match k with
  | 0 => .array .boolean
  | 1 => .array .int
  | 2 => .array .int
  | 3 => .array .int
  | 4 => .array .int
  | _ => .int
abbrev wsX70 : List Cond := u_ws RX7 TX7 6
theorem nmX7 : ∀ a, a < 6 → ∀ b, b < 6 → a ≠ b → (TX7 a).2.1 ≠ (TX7 b).2.1 := by decide +kernel
theorem tyX7_ok : ∀ k, k < 6 → parseFieldDescriptor (TX7 k).2.2.1 = some (tyX7 k) := by decide +kernel
abbrev cX7_init : ByteArray := prog_9_method_1_code
def yX7_init : MethodName := ⟨RX7, "<init>", "()V"⟩
abbrev cX7_find : ByteArray := prog_9_method_2_code
def yX7_find : MethodName := ⟨RX7, "find", "(LChipBoards$Dryer;)I"⟩
abbrev cX7_eventAt : ByteArray := prog_9_method_3_code
def yX7_eventAt : MethodName := ⟨RX7, "eventAt", "(I)I"⟩
abbrev cX7_dangerAfter : ByteArray := prog_9_method_4_code
def yX7_dangerAfter : MethodName := ⟨RX7, "dangerAfter", "(IIZ)I"⟩
abbrev cX7_reach : ByteArray := prog_9_method_5_code
def yX7_reach : MethodName := ⟨RX7, "reach", "(III)Z"⟩
abbrev cX7_writeRow : ByteArray := prog_9_method_6_code
def yX7_writeRow : MethodName := ⟨RX7, "writeRow", "(I)I"⟩
def RX8 : String := "ChipBoards$Sheets"
def TX8 : u_T := fun k => match k with
  | 0 => ("ChipBoards$Sheets", "size", "I", false)
  | 1 => ("ChipBoards$Sheets", "wide", "[I", true)
  | 2 => ("ChipBoards$Sheets", "high", "[I", true)
  | _ => ("ChipBoards$Sheets", "worth", "[I", true)
def tyX8 : Nat → FieldType := fun k => match k with
  | 0 => .int
  | 1 => .array .int
  | 2 => .array .int
  | _ => .array .int
abbrev wsX80 : List Cond := u_ws RX8 TX8 4
theorem nmX8 : ∀ a, a < 4 → ∀ b, b < 4 → a ≠ b → (TX8 a).2.1 ≠ (TX8 b).2.1 := by decide +kernel
theorem tyX8_ok : ∀ k, k < 4 → parseFieldDescriptor (TX8 k).2.2.1 = some (tyX8 k) := by decide +kernel
abbrev cX8_init : ByteArray := prog_10_method_1_code
def yX8_init : MethodName := ⟨RX8, "<init>", "()V"⟩
abbrev cX8_hasSides : ByteArray := prog_10_method_2_code
def yX8_hasSides : MethodName := ⟨RX8, "hasSides", "(II)Z"⟩
abbrev cX8_add : ByteArray := prog_10_method_3_code
def yX8_add : MethodName := ⟨RX8, "add", "(III)I"⟩
abbrev cX8_has : ByteArray := prog_10_method_4_code
def yX8_has : MethodName := ⟨RX8, "has", "(I)Z"⟩
abbrev cX8_worthOf : ByteArray := prog_10_method_5_code
def yX8_worthOf : MethodName := ⟨RX8, "worthOf", "(I)I"⟩
abbrev cX8_dearestIn : ByteArray := prog_10_method_6_code
def yX8_dearestIn : MethodName := ⟨RX8, "dearestIn", "(II)I"⟩
abbrev cX8_copyFrom : ByteArray := prog_10_method_7_code
def yX8_copyFrom : MethodName := ⟨RX8, "copyFrom", "(LChipBoards$Sheets;)V"⟩
def RX9 : String := "ChipBoards$Told"
def TX9 : u_T := fun k => match k with
  | 0 => ("ChipBoards$Told", "bins", "LChipBoards$Bins;", true)
  | 1 => ("ChipBoards$Told", "lots", "LChipBoards$Lots;", true)
  | 2 => ("ChipBoards$Told", "mats", "LChipBoards$Mats;", true)
  | 3 => ("ChipBoards$Told", "plates", "LChipBoards$Plates;", true)
  | 4 => ("ChipBoards$Told", "dryer", "LChipBoards$Dryer;", true)
  | 5 => ("ChipBoards$Told", "sheets", "LChipBoards$Sheets;", true)
  | 6 => ("ChipBoards$Told", "glue", "I", false)
  | 7 => ("ChipBoards$Told", "limit", "I", false)
  | 8 => ("ChipBoards$Told", "need", "I", false)
  | _ => ("ChipBoards$Told", "saw", "I", false)
def tyX9 : Nat → FieldType := fun k => match k with
  | 0 => .object "ChipBoards$Bins"
  | 1 => .object "ChipBoards$Lots"
  | 2 => .object "ChipBoards$Mats"
  | 3 => .object "ChipBoards$Plates"
  | 4 => .object "ChipBoards$Dryer"
  | 5 => .object "ChipBoards$Sheets"
  | 6 => .int
  | 7 => .int
  | 8 => .int
  | _ => .int
abbrev wsX90 : List Cond := u_ws RX9 TX9 10
theorem nmX9 : ∀ a, a < 10 → ∀ b, b < 10 → a ≠ b → (TX9 a).2.1 ≠ (TX9 b).2.1 := by decide +kernel
theorem tyX9_ok : ∀ k, k < 10 → parseFieldDescriptor (TX9 k).2.2.1 = some (tyX9 k) := by decide +kernel
abbrev cX9_init : ByteArray := prog_11_method_1_code
def yX9_init : MethodName := ⟨RX9, "<init>", "()V"⟩
abbrev cX9_setRule : ByteArray := prog_11_method_2_code
def yX9_setRule : MethodName := ⟨RX9, "setRule", "(II)Z"⟩
abbrev cX9_copyFrom : ByteArray := prog_11_method_3_code
def yX9_copyFrom : MethodName := ⟨RX9, "copyFrom", "(LChipBoards$Told;)V"⟩
def RX10 : String := "ChipBoards"
def TX10 : u_T := fun k => match k with
  | 0 => ("ChipBoards", "now", "LChipBoards$Told;", true)
  | 1 => ("ChipBoards", "images", "[LChipBoards$Told;", true)
  | 2 => ("ChipBoards", "heating", "LChipBoards$Heating;", true)
  | 3 => ("ChipBoards", "search", "LChipBoards$RowSearch;", true)
  | _ => ("ChipBoards", "table", "LChipBoards$CutTable;", true)
def tyX10 : Nat → FieldType := fun k => match k with
  | 0 => .object "ChipBoards$Told"
  | 1 => .array (.object "ChipBoards$Told")
  | 2 => .object "ChipBoards$Heating"
  | 3 => .object "ChipBoards$RowSearch"
  | _ => .object "ChipBoards$CutTable"
abbrev wsX100 : List Cond := u_ws RX10 TX10 5
theorem nmX10 : ∀ a, a < 5 → ∀ b, b < 5 → a ≠ b → (TX10 a).2.1 ≠ (TX10 b).2.1 := by decide +kernel
theorem tyX10_ok : ∀ k, k < 5 → parseFieldDescriptor (TX10 k).2.2.1 = some (tyX10 k) := by decide +kernel
abbrev cX10_init : ByteArray := prog_1_method_1_code
def yX10_init : MethodName := ⟨RX10, "<init>", "()V"⟩
abbrev cX10_bin : ByteArray := prog_1_method_2_code
def yX10_bin : MethodName := ⟨RX10, "bin", "(IZ)I"⟩
abbrev cX10_fill : ByteArray := prog_1_method_3_code
def yX10_fill : MethodName := ⟨RX10, "fill", "(II)I"⟩
abbrev cX10_lot : ByteArray := prog_1_method_4_code
def yX10_lot : MethodName := ⟨RX10, "lot", "(I)I"⟩
abbrev cX10_rule : ByteArray := prog_1_method_5_code
def yX10_rule : MethodName := ⟨RX10, "rule", "(II)Z"⟩
abbrev cX10_lay : ByteArray := prog_1_method_6_code
def yX10_lay : MethodName := ⟨RX10, "lay", "(III)I"⟩
abbrev cX10_mat : ByteArray := prog_1_method_7_code
def yX10_mat : MethodName := ⟨RX10, "mat", "(II)I"⟩
abbrev cX10_recall : ByteArray := prog_1_method_8_code
def yX10_recall : MethodName := ⟨RX10, "recall", "(I)I"⟩
abbrev cX10_plate : ByteArray := prog_1_method_9_code
def yX10_plate : MethodName := ⟨RX10, "plate", "(I)I"⟩
abbrev cX10_time : ByteArray := prog_1_method_10_code
def yX10_time : MethodName := ⟨RX10, "time", "(II)I"⟩
abbrev cX10_fastest : ByteArray := prog_1_method_11_code
def yX10_fastest : MethodName := ⟨RX10, "fastest", "(I)I"⟩
abbrev cX10_press : ByteArray := prog_1_method_12_code
def yX10_press : MethodName := ⟨RX10, "press", "(II)Z"⟩
abbrev cX10_shell : ByteArray := prog_1_method_13_code
def yX10_shell : MethodName := ⟨RX10, "shell", "(IIIII)I"⟩
abbrev cX10_link : ByteArray := prog_1_method_14_code
def yX10_link : MethodName := ⟨RX10, "link", "(III)Z"⟩
abbrev cX10_state : ByteArray := prog_1_method_15_code
def yX10_state : MethodName := ⟨RX10, "state", "(IZZ)Z"⟩
abbrev cX10_badRow : ByteArray := prog_1_method_16_code
def yX10_badRow : MethodName := ⟨RX10, "badRow", "()I"⟩
abbrev cX10_bad : ByteArray := prog_1_method_17_code
def yX10_bad : MethodName := ⟨RX10, "bad", "(I)I"⟩
abbrev cX10_sheet : ByteArray := prog_1_method_18_code
def yX10_sheet : MethodName := ⟨RX10, "sheet", "(III)I"⟩
abbrev cX10_best : ByteArray := prog_1_method_19_code
def yX10_best : MethodName := ⟨RX10, "best", "(II)I"⟩
abbrev cX10_cuts : ByteArray := prog_1_method_20_code
def yX10_cuts : MethodName := ⟨RX10, "cuts", "(III)I"⟩
abbrev cX10_count : ByteArray := prog_1_method_21_code
def yX10_count : MethodName := ⟨RX10, "count", "(I)I"⟩
abbrev cX10_image : ByteArray := prog_1_method_22_code
def yX10_image : MethodName := ⟨RX10, "image", "(I)Z"⟩
abbrev cX10_again : ByteArray := prog_1_method_23_code
def yX10_again : MethodName := ⟨RX10, "again", "(I)Z"⟩
abbrev cX10_timeOf : ByteArray := prog_1_method_24_code
def yX10_timeOf : MethodName := ⟨RX10, "timeOf", "(II)I"⟩
def RX11 : String := "ChipBoardsModel"
def TX11 : u_T := fun k => match k with
  | 0 => ("ChipBoardsModel", "all", "[I", true)
  | 1 => ("ChipBoardsModel", "has", "[Z", true)
  | 2 => ("ChipBoardsModel", "heat", "[I", true)
  | 3 => ("ChipBoardsModel", "before", "[I", true)
  | 4 => ("ChipBoardsModel", "cure", "[I", true)
  | 5 => ("ChipBoardsModel", "far", "[I", true)
  | 6 => ("ChipBoardsModel", "worth", "[I", true)
  | 7 => ("ChipBoardsModel", "way", "[I", true)
  | _ => ("ChipBoardsModel", "many", "[I", true)
def tyX11 : Nat → FieldType := fun k => match k with
  | 0 => .array .int
  | 1 => .array .boolean
  | 2 => .array .int
  | 3 => .array .int
  | 4 => .array .int
  | 5 => .array .int
  | 6 => .array .int
  | 7 => .array .int
  | _ => .array .int
abbrev wsX110 : List Cond := u_ws RX11 TX11 9
theorem nmX11 : ∀ a, a < 9 → ∀ b, b < 9 → a ≠ b → (TX11 a).2.1 ≠ (TX11 b).2.1 := by decide +kernel
theorem tyX11_ok : ∀ k, k < 9 → parseFieldDescriptor (TX11 k).2.2.1 = some (tyX11 k) := by decide +kernel
abbrev cX11_init : ByteArray := prog_13_method_1_code
def yX11_init : MethodName := ⟨RX11, "<init>", "()V"⟩
abbrev cX11_isIn : ByteArray := prog_13_method_2_code
def yX11_isIn : MethodName := ⟨RX11, "isIn", "(III)Z"⟩
abbrev cX11_isOf : ByteArray := prog_13_method_3_code
def yX11_isOf : MethodName := ⟨RX11, "isOf", "(II)Z"⟩
abbrev cX11_bin : ByteArray := prog_13_method_4_code
def yX11_bin : MethodName := ⟨RX11, "bin", "(IZ)I"⟩
abbrev cX11_fill : ByteArray := prog_13_method_5_code
def yX11_fill : MethodName := ⟨RX11, "fill", "(II)I"⟩
abbrev cX11_lot : ByteArray := prog_13_method_6_code
def yX11_lot : MethodName := ⟨RX11, "lot", "(I)I"⟩
abbrev cX11_leastOf : ByteArray := prog_13_method_7_code
def yX11_leastOf : MethodName := ⟨RX11, "leastOf", "(I)I"⟩
abbrev cX11_mostOf : ByteArray := prog_13_method_8_code
def yX11_mostOf : MethodName := ⟨RX11, "mostOf", "(I)I"⟩
abbrev cX11_rule : ByteArray := prog_13_method_9_code
def yX11_rule : MethodName := ⟨RX11, "rule", "(II)Z"⟩
abbrev cX11_glueLeft : ByteArray := prog_13_method_10_code
def yX11_glueLeft : MethodName := ⟨RX11, "glueLeft", "()I"⟩
abbrev cX11_takes : ByteArray := prog_13_method_11_code
def yX11_takes : MethodName := ⟨RX11, "takes", "(I)I"⟩
abbrev cX11_lay : ByteArray := prog_13_method_12_code
def yX11_lay : MethodName := ⟨RX11, "lay", "(III)I"⟩
abbrev cX11_mat : ByteArray := prog_13_method_13_code
def yX11_mat : MethodName := ⟨RX11, "mat", "(II)I"⟩
abbrev cX11_recall : ByteArray := prog_13_method_14_code
def yX11_recall : MethodName := ⟨RX11, "recall", "(I)I"⟩
abbrev cX11_plate : ByteArray := prog_13_method_15_code
def yX11_plate : MethodName := ⟨RX11, "plate", "(I)I"⟩
abbrev cX11_cold : ByteArray := prog_13_method_16_code
def yX11_cold : MethodName := ⟨RX11, "cold", "()V"⟩
abbrev cX11_tick : ByteArray := prog_13_method_17_code
def yX11_tick : MethodName := ⟨RX11, "tick", "(I)V"⟩
abbrev cX11_steam : ByteArray := prog_13_method_18_code
def yX11_steam : MethodName := ⟨RX11, "steam", "(II)I"⟩
abbrev cX11_mayOpen : ByteArray := prog_13_method_19_code
def yX11_mayOpen : MethodName := ⟨RX11, "mayOpen", "(I)Z"⟩
abbrev cX11_time : ByteArray := prog_13_method_20_code
def yX11_time : MethodName := ⟨RX11, "time", "(II)I"⟩
abbrev cX11_fastest : ByteArray := prog_13_method_21_code
def yX11_fastest : MethodName := ⟨RX11, "fastest", "(I)I"⟩
abbrev cX11_press : ByteArray := prog_13_method_22_code
def yX11_press : MethodName := ⟨RX11, "press", "(II)Z"⟩
abbrev cX11_shell : ByteArray := prog_13_method_23_code
def yX11_shell : MethodName := ⟨RX11, "shell", "(IIIII)I"⟩
abbrev cX11_link : ByteArray := prog_13_method_24_code
def yX11_link : MethodName := ⟨RX11, "link", "(III)Z"⟩
abbrev cX11_state : ByteArray := prog_13_method_25_code
def yX11_state : MethodName := ⟨RX11, "state", "(IZZ)Z"⟩
abbrev cX11_next : ByteArray := prog_13_method_26_code
def yX11_next : MethodName := ⟨RX11, "next", "(II)I"⟩
abbrev cX11_isBad : ByteArray := prog_13_method_27_code
def yX11_isBad : MethodName := ⟨RX11, "isBad", "(I)Z"⟩
abbrev cX11_onward : ByteArray := prog_13_method_28_code
def yX11_onward : MethodName := ⟨RX11, "onward", "(II)I"⟩
abbrev cX11_distances : ByteArray := prog_13_method_29_code
def yX11_distances : MethodName := ⟨RX11, "distances", "()V"⟩
abbrev cX11_badRow : ByteArray := prog_13_method_30_code
def yX11_badRow : MethodName := ⟨RX11, "badRow", "()I"⟩
abbrev cX11_bad : ByteArray := prog_13_method_31_code
def yX11_bad : MethodName := ⟨RX11, "bad", "(I)I"⟩
abbrev cX11_sheet : ByteArray := prog_13_method_32_code
def yX11_sheet : MethodName := ⟨RX11, "sheet", "(III)I"⟩
abbrev cX11_board : ByteArray := prog_13_method_33_code
def yX11_board : MethodName := ⟨RX11, "board", "(II)I"⟩
abbrev cX11_tries : ByteArray := prog_13_method_34_code
def yX11_tries : MethodName := ⟨RX11, "tries", "(III)V"⟩
abbrev cX11_settles : ByteArray := prog_13_method_35_code
def yX11_settles : MethodName := ⟨RX11, "settles", "(II)V"⟩
abbrev cX11_reckons : ByteArray := prog_13_method_36_code
def yX11_reckons : MethodName := ⟨RX11, "reckons", "(II)V"⟩
abbrev cX11_isBoard : ByteArray := prog_13_method_37_code
def yX11_isBoard : MethodName := ⟨RX11, "isBoard", "(II)Z"⟩
abbrev cX11_best : ByteArray := prog_13_method_38_code
def yX11_best : MethodName := ⟨RX11, "best", "(II)I"⟩
abbrev cX11_comes : ByteArray := prog_13_method_39_code
def yX11_comes : MethodName := ⟨RX11, "comes", "(III)I"⟩
abbrev cX11_cuts : ByteArray := prog_13_method_40_code
def yX11_cuts : MethodName := ⟨RX11, "cuts", "(III)I"⟩
abbrev cX11_count : ByteArray := prog_13_method_41_code
def yX11_count : MethodName := ⟨RX11, "count", "(I)I"⟩
abbrev cX11_image : ByteArray := prog_13_method_42_code
def yX11_image : MethodName := ⟨RX11, "image", "(I)Z"⟩
abbrev cX11_again : ByteArray := prog_13_method_43_code
def yX11_again : MethodName := ⟨RX11, "again", "(I)Z"⟩
def RJ9 : String := "java/lang/Math"
def TJ9 : u_T := fun k => match k with
  | _ => ("", "", "", false)
def tyJ9 : Nat → FieldType := fun k => match k with
  | _ => .int
abbrev wsJ90 : List Cond := u_ws RJ9 TJ9 0
theorem nmJ9 : ∀ a, a < 0 → ∀ b, b < 0 → a ≠ b → (TJ9 a).2.1 ≠ (TJ9 b).2.1 := by decide +kernel
theorem tyJ9_ok : ∀ k, k < 0 → parseFieldDescriptor (TJ9 k).2.2.1 = some (tyJ9 k) := by decide +kernel
abbrev cJ9_max_7cf53 : ByteArray := prog_14_method_65_code
def yJ9_max_7cf53 : MethodName := ⟨RJ9, "max", "(II)I"⟩
abbrev cJ9_min_7cf53 : ByteArray := prog_14_method_69_code
def yJ9_min_7cf53 : MethodName := ⟨RJ9, "min", "(II)I"⟩
def RJ10 : String := "java/lang/System"
def TJ10 : u_T := fun k => match k with
  | _ => ("", "", "", false)
def tyJ10 : Nat → FieldType := fun k => match k with
  | _ => .int
abbrev wsJ100 : List Cond := u_ws RJ10 TJ10 0
theorem nmJ10 : ∀ a, a < 0 → ∀ b, b < 0 → a ≠ b → (TJ10 a).2.1 ≠ (TJ10 b).2.1 := by decide +kernel
theorem tyJ10_ok : ∀ k, k < 0 → parseFieldDescriptor (TJ10 k).2.2.1 = some (tyJ10 k) := by decide +kernel
def RL : String := "ChipBoardsLaw"
abbrev cL_law : ByteArray := code
def yL_law : MethodName := ⟨RL, "law", "([I)Z"⟩
abbrev vwCl : List vw_C := [(RX0, TX0, 4), (RX1, TX1, 6), (RX2, TX2, 3), (RX3, TX3, 3), (RX4, TX4, 2), (RX5, TX5, 2), (RX6, TX6, 2), (RX7, TX7, 6), (RX8, TX8, 4), (RX9, TX9, 10), (RX10, TX10, 5), (RX11, TX11, 9)]
def wsA : List Cond := lw_tbl.filter goodWord
theorem wsA_1 {w : Cond} (i : Nat) (h : tables_1_1[i]? = some w) (hg : goodWord w = true) : w ∈ wsA := List.mem_filter.mpr ⟨List.mem_append_right _ (List.mem_append_left _ (List.mem_of_getElem? h)), hg⟩
theorem wsA_2 {w : Cond} (i : Nat) (h : tables_1_2[i]? = some w) (hg : goodWord w = true) : w ∈ wsA := List.mem_filter.mpr ⟨List.mem_append_right _ (List.mem_append_right _ (List.mem_append_left _ (List.mem_of_getElem? h))), hg⟩
theorem wsA_3 {w : Cond} (i : Nat) (h : tables_1_3[i]? = some w) (hg : goodWord w = true) : w ∈ wsA := List.mem_filter.mpr ⟨List.mem_append_right _ (List.mem_append_right _ (List.mem_append_right _ (List.mem_append_left _ (List.mem_of_getElem? h)))), hg⟩
theorem wsA_4 {w : Cond} (i : Nat) (h : tables_1_4[i]? = some w) (hg : goodWord w = true) : w ∈ wsA := List.mem_filter.mpr ⟨List.mem_append_right _ (List.mem_append_right _ (List.mem_append_right _ (List.mem_append_right _ (List.mem_of_getElem? h)))), hg⟩
theorem wsA_p {y : MethodName} (i : Nat) {n : Nat} (h : lw_privs[i]? = some (y, n)) (hg : goodWord (Cond.selects y.cls y y) = true) : Cond.selects y.cls y y ∈ wsA := List.mem_filter.mpr ⟨List.mem_append_left _ (List.mem_map.mpr ⟨(y, n), List.mem_of_getElem? h, rfl⟩), hg⟩
