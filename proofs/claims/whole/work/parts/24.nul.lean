section KN
variable {M : KM} {E : KE} {nL cells slots d mc ms : Nat} {ws : va_W} {lv : List (Nat × Value)} {st : List Value} {cc : ByteArray} {own : String}
theorem z_aload_nN {pc : Nat} {j : Fin 4} {i : Nat} (q : Nat) (g : kG M E nL d mc ms cc own) (hd : decode cc pc = .ok (.aload_n j, 1)) (hi : (j : Nat) = i) (hq : lv[q]? = some (i, .null)) (k : kV M E nL cells slots ws lv (pc + 1) (.null :: st)) : kV M E nL cells slots ws lv pc st := by
  obtain ⟨p, e, R, s, m, args, below, meth, c, A, Q⟩ := E
  obtain ⟨hx, hb, -⟩ := g
  intro H locs ls hP hD hS hl
  refine lv_aload_nN hx hb hd hi (lv_at hl q hq) ?_
  exact k H locs ls hP hD hS hl
theorem z_astore_nN {pc : Nat} {j : Fin 4} {i : Nat} (lv' : List (Nat × Value)) (g : kG M E nL d mc ms cc own) (hd : decode cc pc = .ok (.astore_n j, 1)) (hi : (j : Nat) = i) (hn : i < nL) (hlv : (i, Value.null) :: lv.filter (fun q => !(q.1 == i) && !(q.1 + 1 == i && q.2.category == 2)) = lv') (k : kV M E nL cells slots ws lv' (pc + 1) st) : kV M E nL cells slots ws lv pc (Value.null :: st) := by
  obtain ⟨p, e, R, s, m, args, below, meth, c, A, Q⟩ := E
  obtain ⟨hx, hb, -⟩ := g
  intro H locs ls hP hD hS hl
  refine lv_astore_nN hx hb hd hi hl hn hlv (fun ls2 hl2 => ?_)
  exact k H locs ls2 hP hD hS hl2
end KN
