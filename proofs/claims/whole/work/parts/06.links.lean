set_option maxRecDepth 20000 in
theorem in_X0 : ∀ w ∈ u_ws RX0 TX0 4, w ∈ wsA := List.forall_mem_cons.mpr ⟨wsA_1 40 rfl rfl, List.forall_mem_cons.mpr ⟨wsA_1 42 rfl rfl, List.forall_mem_cons.mpr ⟨wsA_1 44 rfl rfl, List.forall_mem_cons.mpr ⟨wsA_1 46 rfl rfl, fun _ h => absurd h List.not_mem_nil⟩⟩⟩⟩
set_option maxRecDepth 20000 in
theorem in_X1 : ∀ w ∈ u_ws RX1 TX1 6, w ∈ wsA := List.forall_mem_cons.mpr ⟨wsA_1 226 rfl rfl, List.forall_mem_cons.mpr ⟨wsA_1 228 rfl rfl, List.forall_mem_cons.mpr ⟨wsA_1 230 rfl rfl, List.forall_mem_cons.mpr ⟨wsA_1 232 rfl rfl, List.forall_mem_cons.mpr ⟨wsA_1 234 rfl rfl, List.forall_mem_cons.mpr ⟨wsA_1 236 rfl rfl, fun _ h => absurd h List.not_mem_nil⟩⟩⟩⟩⟩⟩
set_option maxRecDepth 20000 in
theorem in_X2 : ∀ w ∈ u_ws RX2 TX2 3, w ∈ wsA := List.forall_mem_cons.mpr ⟨wsA_1 102 rfl rfl, List.forall_mem_cons.mpr ⟨wsA_1 104 rfl rfl, List.forall_mem_cons.mpr ⟨wsA_1 106 rfl rfl, fun _ h => absurd h List.not_mem_nil⟩⟩⟩
set_option maxRecDepth 20000 in
theorem in_X3 : ∀ w ∈ u_ws RX3 TX3 3, w ∈ wsA := List.forall_mem_cons.mpr ⟨wsA_1 180 rfl rfl, List.forall_mem_cons.mpr ⟨wsA_1 182 rfl rfl, List.forall_mem_cons.mpr ⟨wsA_1 184 rfl rfl, fun _ h => absurd h List.not_mem_nil⟩⟩⟩
set_option maxRecDepth 20000 in
theorem in_X4 : ∀ w ∈ u_ws RX4 TX4 2, w ∈ wsA := List.forall_mem_cons.mpr ⟨wsA_1 60 rfl rfl, List.forall_mem_cons.mpr ⟨wsA_1 62 rfl rfl, fun _ h => absurd h List.not_mem_nil⟩⟩
set_option maxRecDepth 20000 in
theorem in_X5 : ∀ w ∈ u_ws RX5 TX5 2, w ∈ wsA := List.forall_mem_cons.mpr ⟨wsA_1 74 rfl rfl, List.forall_mem_cons.mpr ⟨wsA_1 76 rfl rfl, fun _ h => absurd h List.not_mem_nil⟩⟩
set_option maxRecDepth 20000 in
theorem in_X6 : ∀ w ∈ u_ws RX6 TX6 2, w ∈ wsA := List.forall_mem_cons.mpr ⟨wsA_1 88 rfl rfl, List.forall_mem_cons.mpr ⟨wsA_1 90 rfl rfl, fun _ h => absurd h List.not_mem_nil⟩⟩
set_option maxRecDepth 20000 in
theorem in_X7 : ∀ w ∈ u_ws RX7 TX7 6, w ∈ wsA := List.forall_mem_cons.mpr ⟨wsA_1 199 rfl rfl, List.forall_mem_cons.mpr ⟨wsA_1 201 rfl rfl, List.forall_mem_cons.mpr ⟨wsA_1 203 rfl rfl, List.forall_mem_cons.mpr ⟨wsA_1 205 rfl rfl, List.forall_mem_cons.mpr ⟨wsA_1 207 rfl rfl, List.forall_mem_cons.mpr ⟨wsA_1 209 rfl rfl, fun _ h => absurd h List.not_mem_nil⟩⟩⟩⟩⟩⟩
set_option maxRecDepth 20000 in
theorem in_X8 : ∀ w ∈ u_ws RX8 TX8 4, w ∈ wsA := List.forall_mem_cons.mpr ⟨wsA_1 120 rfl rfl, List.forall_mem_cons.mpr ⟨wsA_1 122 rfl rfl, List.forall_mem_cons.mpr ⟨wsA_1 124 rfl rfl, List.forall_mem_cons.mpr ⟨wsA_1 126 rfl rfl, fun _ h => absurd h List.not_mem_nil⟩⟩⟩⟩
set_option maxRecDepth 20000 in
theorem in_X9 : ∀ w ∈ u_ws RX9 TX9 10, w ∈ wsA := List.forall_mem_cons.mpr ⟨wsA_1 149 rfl rfl, List.forall_mem_cons.mpr ⟨wsA_1 151 rfl rfl, List.forall_mem_cons.mpr ⟨wsA_1 153 rfl rfl, List.forall_mem_cons.mpr ⟨wsA_1 155 rfl rfl, List.forall_mem_cons.mpr ⟨wsA_1 157 rfl rfl, List.forall_mem_cons.mpr ⟨wsA_1 159 rfl rfl, List.forall_mem_cons.mpr ⟨wsA_1 161 rfl rfl, List.forall_mem_cons.mpr ⟨wsA_1 163 rfl rfl, List.forall_mem_cons.mpr ⟨wsA_1 165 rfl rfl, List.forall_mem_cons.mpr ⟨wsA_1 167 rfl rfl, fun _ h => absurd h List.not_mem_nil⟩⟩⟩⟩⟩⟩⟩⟩⟩⟩
set_option maxRecDepth 20000 in
theorem in_X10 : ∀ w ∈ u_ws RX10 TX10 5, w ∈ wsA := List.forall_mem_cons.mpr ⟨wsA_2 4 rfl rfl, List.forall_mem_cons.mpr ⟨wsA_2 6 rfl rfl, List.forall_mem_cons.mpr ⟨wsA_2 8 rfl rfl, List.forall_mem_cons.mpr ⟨wsA_2 10 rfl rfl, List.forall_mem_cons.mpr ⟨wsA_2 12 rfl rfl, fun _ h => absurd h List.not_mem_nil⟩⟩⟩⟩⟩
set_option maxRecDepth 20000 in
theorem in_X11 : ∀ w ∈ u_ws RX11 TX11 9, w ∈ wsA := List.forall_mem_cons.mpr ⟨wsA_3 172 rfl rfl, List.forall_mem_cons.mpr ⟨wsA_3 174 rfl rfl, List.forall_mem_cons.mpr ⟨wsA_3 176 rfl rfl, List.forall_mem_cons.mpr ⟨wsA_3 178 rfl rfl, List.forall_mem_cons.mpr ⟨wsA_3 180 rfl rfl, List.forall_mem_cons.mpr ⟨wsA_3 182 rfl rfl, List.forall_mem_cons.mpr ⟨wsA_3 184 rfl rfl, List.forall_mem_cons.mpr ⟨wsA_3 186 rfl rfl, List.forall_mem_cons.mpr ⟨wsA_3 188 rfl rfl, fun _ h => absurd h List.not_mem_nil⟩⟩⟩⟩⟩⟩⟩⟩⟩
set_option maxRecDepth 20000 in
theorem fp_X10_10 : kFP RX10 10 10 0 (.object "ChipBoards$Told") true := ⟨RX10, TX10, 5, tyX10, rfl, by decide, wsA_1 239 rfl rfl, in_X10, tyX10_ok, nmX10, rfl, tyX10_ok 0 (by decide), fun h => rfl⟩
set_option maxRecDepth 20000 in
theorem fp_X10_16 : kFP RX10 16 10 1 (.array (.object "ChipBoards$Told")) true := ⟨RX10, TX10, 5, tyX10, rfl, by decide, wsA_2 0 rfl rfl, in_X10, tyX10_ok, nmX10, rfl, tyX10_ok 1 (by decide), fun h => rfl⟩
set_option maxRecDepth 20000 in
theorem fp_X10_23 : kFP RX10 23 10 2 (.object "ChipBoards$Heating") true := ⟨RX10, TX10, 5, tyX10, rfl, by decide, wsA_2 1 rfl rfl, in_X10, tyX10_ok, nmX10, rfl, tyX10_ok 2 (by decide), fun h => rfl⟩
set_option maxRecDepth 20000 in
theorem fp_X10_30 : kFP RX10 30 10 3 (.object "ChipBoards$RowSearch") true := ⟨RX10, TX10, 5, tyX10, rfl, by decide, wsA_2 2 rfl rfl, in_X10, tyX10_ok, nmX10, rfl, tyX10_ok 3 (by decide), fun h => rfl⟩
set_option maxRecDepth 20000 in
theorem fp_X10_37 : kFP RX10 37 10 4 (.object "ChipBoards$CutTable") true := ⟨RX10, TX10, 5, tyX10, rfl, by decide, wsA_2 3 rfl rfl, in_X10, tyX10_ok, nmX10, rfl, tyX10_ok 4 (by decide), fun h => rfl⟩
set_option maxRecDepth 20000 in
theorem fl_X10_10 : kFL RX10 10 10 0 := ⟨RX10, TX10, 5, rfl, by decide, wsA_1 239 rfl rfl, in_X10⟩
set_option maxRecDepth 20000 in
theorem fl_X10_41 : kFL RX10 41 9 0 := ⟨RX9, TX9, 10, rfl, by decide, wsA_1 130 rfl rfl, in_X9⟩
set_option maxRecDepth 20000 in
theorem fl_X10_55 : kFL RX10 55 9 1 := ⟨RX9, TX9, 10, rfl, by decide, wsA_1 132 rfl rfl, in_X9⟩
set_option maxRecDepth 20000 in
theorem fl_X10_37 : kFL RX10 37 10 4 := ⟨RX10, TX10, 5, rfl, by decide, wsA_2 3 rfl rfl, in_X10⟩
set_option maxRecDepth 20000 in
theorem fl_X10_71 : kFL RX10 71 9 2 := ⟨RX9, TX9, 10, rfl, by decide, wsA_1 134 rfl rfl, in_X9⟩
set_option maxRecDepth 20000 in
theorem fl_X10_85 : kFL RX10 85 9 6 := ⟨RX9, TX9, 10, rfl, by decide, wsA_1 142 rfl rfl, in_X9⟩
set_option maxRecDepth 20000 in
theorem fl_X10_100 : kFL RX10 100 9 7 := ⟨RX9, TX9, 10, rfl, by decide, wsA_1 144 rfl rfl, in_X9⟩
set_option maxRecDepth 20000 in
theorem fl_X10_126 : kFL RX10 126 9 3 := ⟨RX9, TX9, 10, rfl, by decide, wsA_1 136 rfl rfl, in_X9⟩
set_option maxRecDepth 20000 in
theorem fl_X10_23 : kFL RX10 23 10 2 := ⟨RX10, TX10, 5, rfl, by decide, wsA_2 1 rfl rfl, in_X10⟩
set_option maxRecDepth 20000 in
theorem fl_X10_158 : kFL RX10 158 9 4 := ⟨RX9, TX9, 10, rfl, by decide, wsA_1 138 rfl rfl, in_X9⟩
set_option maxRecDepth 20000 in
theorem fl_X10_30 : kFL RX10 30 10 3 := ⟨RX10, TX10, 5, rfl, by decide, wsA_2 2 rfl rfl, in_X10⟩
set_option maxRecDepth 20000 in
theorem fl_X10_179 : kFL RX10 179 9 5 := ⟨RX9, TX9, 10, rfl, by decide, wsA_1 140 rfl rfl, in_X9⟩
set_option maxRecDepth 20000 in
theorem fl_X10_188 : kFL RX10 188 9 9 := ⟨RX9, TX9, 10, rfl, by decide, wsA_1 148 rfl rfl, in_X9⟩
set_option maxRecDepth 20000 in
theorem fl_X10_209 : kFL RX10 209 0 0 := ⟨RX0, TX0, 4, rfl, by decide, wsA_1 36 rfl rfl, in_X0⟩
set_option maxRecDepth 20000 in
theorem fl_X10_212 : kFL RX10 212 4 0 := ⟨RX4, TX4, 2, rfl, by decide, wsA_1 58 rfl rfl, in_X4⟩
set_option maxRecDepth 20000 in
theorem fl_X10_213 : kFL RX10 213 5 0 := ⟨RX5, TX5, 2, rfl, by decide, wsA_1 72 rfl rfl, in_X5⟩
set_option maxRecDepth 20000 in
theorem fl_X10_214 : kFL RX10 214 6 0 := ⟨RX6, TX6, 2, rfl, by decide, wsA_1 86 rfl rfl, in_X6⟩
set_option maxRecDepth 20000 in
theorem fl_X10_215 : kFL RX10 215 8 0 := ⟨RX8, TX8, 4, rfl, by decide, wsA_1 116 rfl rfl, in_X8⟩
set_option maxRecDepth 20000 in
theorem fl_X10_16 : kFL RX10 16 10 1 := ⟨RX10, TX10, 5, rfl, by decide, wsA_2 0 rfl rfl, in_X10⟩
set_option maxRecDepth 20000 in
theorem fl_X10_224 : kFL RX10 224 9 8 := ⟨RX9, TX9, 10, rfl, by decide, wsA_1 146 rfl rfl, in_X9⟩
set_option maxRecDepth 20000 in
theorem fp_X11_7 : kFP RX11 7 11 0 (.array .int) true := ⟨RX11, TX11, 9, tyX11, rfl, by decide, wsA_3 163 rfl rfl, in_X11, tyX11_ok, nmX11, rfl, tyX11_ok 0 (by decide), fun h => rfl⟩
set_option maxRecDepth 20000 in
theorem fp_X11_13 : kFP RX11 13 11 1 (.array .boolean) true := ⟨RX11, TX11, 9, tyX11, rfl, by decide, wsA_3 164 rfl rfl, in_X11, tyX11_ok, nmX11, rfl, tyX11_ok 1 (by decide), fun h => rfl⟩
set_option maxRecDepth 20000 in
theorem fp_X11_17 : kFP RX11 17 11 2 (.array .int) true := ⟨RX11, TX11, 9, tyX11, rfl, by decide, wsA_3 165 rfl rfl, in_X11, tyX11_ok, nmX11, rfl, tyX11_ok 2 (by decide), fun h => rfl⟩
set_option maxRecDepth 20000 in
theorem fp_X11_20 : kFP RX11 20 11 3 (.array .int) true := ⟨RX11, TX11, 9, tyX11, rfl, by decide, wsA_3 166 rfl rfl, in_X11, tyX11_ok, nmX11, rfl, tyX11_ok 3 (by decide), fun h => rfl⟩
set_option maxRecDepth 20000 in
theorem fp_X11_23 : kFP RX11 23 11 4 (.array .int) true := ⟨RX11, TX11, 9, tyX11, rfl, by decide, wsA_3 167 rfl rfl, in_X11, tyX11_ok, nmX11, rfl, tyX11_ok 4 (by decide), fun h => rfl⟩
set_option maxRecDepth 20000 in
theorem fp_X11_26 : kFP RX11 26 11 5 (.array .int) true := ⟨RX11, TX11, 9, tyX11, rfl, by decide, wsA_3 168 rfl rfl, in_X11, tyX11_ok, nmX11, rfl, tyX11_ok 5 (by decide), fun h => rfl⟩
set_option maxRecDepth 20000 in
theorem fp_X11_29 : kFP RX11 29 11 6 (.array .int) true := ⟨RX11, TX11, 9, tyX11, rfl, by decide, wsA_3 169 rfl rfl, in_X11, tyX11_ok, nmX11, rfl, tyX11_ok 6 (by decide), fun h => rfl⟩
set_option maxRecDepth 20000 in
theorem fp_X11_32 : kFP RX11 32 11 7 (.array .int) true := ⟨RX11, TX11, 9, tyX11, rfl, by decide, wsA_3 170 rfl rfl, in_X11, tyX11_ok, nmX11, rfl, tyX11_ok 7 (by decide), fun h => rfl⟩
set_option maxRecDepth 20000 in
theorem fp_X11_35 : kFP RX11 35 11 8 (.array .int) true := ⟨RX11, TX11, 9, tyX11, rfl, by decide, wsA_3 171 rfl rfl, in_X11, tyX11_ok, nmX11, rfl, tyX11_ok 8 (by decide), fun h => rfl⟩
set_option maxRecDepth 20000 in
theorem fl_X11_7 : kFL RX11 7 11 0 := ⟨RX11, TX11, 9, rfl, by decide, wsA_3 163 rfl rfl, in_X11⟩
set_option maxRecDepth 20000 in
theorem fl_X11_17 : kFL RX11 17 11 2 := ⟨RX11, TX11, 9, rfl, by decide, wsA_3 165 rfl rfl, in_X11⟩
set_option maxRecDepth 20000 in
theorem fl_X11_23 : kFL RX11 23 11 4 := ⟨RX11, TX11, 9, rfl, by decide, wsA_3 167 rfl rfl, in_X11⟩
set_option maxRecDepth 20000 in
theorem fl_X11_20 : kFL RX11 20 11 3 := ⟨RX11, TX11, 9, rfl, by decide, wsA_3 166 rfl rfl, in_X11⟩
set_option maxRecDepth 20000 in
theorem fl_X11_26 : kFL RX11 26 11 5 := ⟨RX11, TX11, 9, rfl, by decide, wsA_3 168 rfl rfl, in_X11⟩
set_option maxRecDepth 20000 in
theorem fl_X11_29 : kFL RX11 29 11 6 := ⟨RX11, TX11, 9, rfl, by decide, wsA_3 169 rfl rfl, in_X11⟩
set_option maxRecDepth 20000 in
theorem fl_X11_32 : kFL RX11 32 11 7 := ⟨RX11, TX11, 9, rfl, by decide, wsA_3 170 rfl rfl, in_X11⟩
set_option maxRecDepth 20000 in
theorem fl_X11_35 : kFL RX11 35 11 8 := ⟨RX11, TX11, 9, rfl, by decide, wsA_3 171 rfl rfl, in_X11⟩
set_option maxRecDepth 20000 in
theorem fl_X11_13 : kFL RX11 13 11 1 := ⟨RX11, TX11, 9, rfl, by decide, wsA_3 164 rfl rfl, in_X11⟩
set_option maxRecDepth 20000 in
theorem fp_X0_9 : kFP RX0 9 0 0 .int false := ⟨RX0, TX0, 4, tyX0, rfl, by decide, wsA_1 35 rfl rfl, in_X0, tyX0_ok, nmX0, rfl, tyX0_ok 0 (by decide), fun h => absurd h (by decide)⟩
set_option maxRecDepth 20000 in
theorem fp_X0_15 : kFP RX0 15 0 1 (.array .int) true := ⟨RX0, TX0, 4, tyX0, rfl, by decide, wsA_1 37 rfl rfl, in_X0, tyX0_ok, nmX0, rfl, tyX0_ok 1 (by decide), fun h => rfl⟩
set_option maxRecDepth 20000 in
theorem fp_X0_19 : kFP RX0 19 0 2 (.array .int) true := ⟨RX0, TX0, 4, tyX0, rfl, by decide, wsA_1 38 rfl rfl, in_X0, tyX0_ok, nmX0, rfl, tyX0_ok 2 (by decide), fun h => rfl⟩
set_option maxRecDepth 20000 in
theorem fp_X0_22 : kFP RX0 22 0 3 (.array .boolean) true := ⟨RX0, TX0, 4, tyX0, rfl, by decide, wsA_1 39 rfl rfl, in_X0, tyX0_ok, nmX0, rfl, tyX0_ok 3 (by decide), fun h => rfl⟩
set_option maxRecDepth 20000 in
theorem fl_X0_9 : kFL RX0 9 0 0 := ⟨RX0, TX0, 4, rfl, by decide, wsA_1 35 rfl rfl, in_X0⟩
set_option maxRecDepth 20000 in
theorem fl_X0_15 : kFL RX0 15 0 1 := ⟨RX0, TX0, 4, rfl, by decide, wsA_1 37 rfl rfl, in_X0⟩
set_option maxRecDepth 20000 in
theorem fl_X0_19 : kFL RX0 19 0 2 := ⟨RX0, TX0, 4, rfl, by decide, wsA_1 38 rfl rfl, in_X0⟩
set_option maxRecDepth 20000 in
theorem fl_X0_22 : kFL RX0 22 0 3 := ⟨RX0, TX0, 4, rfl, by decide, wsA_1 39 rfl rfl, in_X0⟩
set_option maxRecDepth 20000 in
theorem fp_X1_13 : kFP RX1 13 1 0 (.array .int) true := ⟨RX1, TX1, 6, tyX1, rfl, by decide, wsA_1 220 rfl rfl, in_X1, tyX1_ok, nmX1, rfl, tyX1_ok 0 (by decide), fun h => rfl⟩
set_option maxRecDepth 20000 in
theorem fp_X1_19 : kFP RX1 19 1 1 (.array (.array .int)) true := ⟨RX1, TX1, 6, tyX1, rfl, by decide, wsA_1 221 rfl rfl, in_X1, tyX1_ok, nmX1, rfl, tyX1_ok 1 (by decide), fun h => rfl⟩
set_option maxRecDepth 20000 in
theorem fp_X1_22 : kFP RX1 22 1 2 .boolean false := ⟨RX1, TX1, 6, tyX1, rfl, by decide, wsA_1 222 rfl rfl, in_X1, tyX1_ok, nmX1, rfl, tyX1_ok 2 (by decide), fun h => absurd h (by decide)⟩
set_option maxRecDepth 20000 in
theorem fp_X1_26 : kFP RX1 26 1 3 .int false := ⟨RX1, TX1, 6, tyX1, rfl, by decide, wsA_1 223 rfl rfl, in_X1, tyX1_ok, nmX1, rfl, tyX1_ok 3 (by decide), fun h => absurd h (by decide)⟩
set_option maxRecDepth 20000 in
theorem fp_X1_30 : kFP RX1 30 1 4 .int false := ⟨RX1, TX1, 6, tyX1, rfl, by decide, wsA_1 224 rfl rfl, in_X1, tyX1_ok, nmX1, rfl, tyX1_ok 4 (by decide), fun h => absurd h (by decide)⟩
set_option maxRecDepth 20000 in
theorem fp_X1_33 : kFP RX1 33 1 5 .int false := ⟨RX1, TX1, 6, tyX1, rfl, by decide, wsA_1 225 rfl rfl, in_X1, tyX1_ok, nmX1, rfl, tyX1_ok 5 (by decide), fun h => absurd h (by decide)⟩
set_option maxRecDepth 20000 in
theorem fl_X1_22 : kFL RX1 22 1 2 := ⟨RX1, TX1, 6, rfl, by decide, wsA_1 222 rfl rfl, in_X1⟩
set_option maxRecDepth 20000 in
theorem fl_X1_13 : kFL RX1 13 1 0 := ⟨RX1, TX1, 6, rfl, by decide, wsA_1 220 rfl rfl, in_X1⟩
set_option maxRecDepth 20000 in
theorem fl_X1_19 : kFL RX1 19 1 1 := ⟨RX1, TX1, 6, rfl, by decide, wsA_1 221 rfl rfl, in_X1⟩
set_option maxRecDepth 20000 in
theorem fl_X1_30 : kFL RX1 30 1 4 := ⟨RX1, TX1, 6, rfl, by decide, wsA_1 224 rfl rfl, in_X1⟩
set_option maxRecDepth 20000 in
theorem fl_X1_33 : kFL RX1 33 1 5 := ⟨RX1, TX1, 6, rfl, by decide, wsA_1 225 rfl rfl, in_X1⟩
set_option maxRecDepth 20000 in
theorem fl_X1_26 : kFL RX1 26 1 3 := ⟨RX1, TX1, 6, rfl, by decide, wsA_1 223 rfl rfl, in_X1⟩
set_option maxRecDepth 20000 in
theorem fp_X2_11 : kFP RX2 11 2 0 (.array .int) true := ⟨RX2, TX2, 3, tyX2, rfl, by decide, wsA_1 99 rfl rfl, in_X2, tyX2_ok, nmX2, rfl, tyX2_ok 0 (by decide), fun h => rfl⟩
set_option maxRecDepth 20000 in
theorem fp_X2_15 : kFP RX2 15 2 1 (.array .boolean) true := ⟨RX2, TX2, 3, tyX2, rfl, by decide, wsA_1 100 rfl rfl, in_X2, tyX2_ok, nmX2, rfl, tyX2_ok 1 (by decide), fun h => rfl⟩
set_option maxRecDepth 20000 in
theorem fp_X2_19 : kFP RX2 19 2 2 (.array .boolean) true := ⟨RX2, TX2, 3, tyX2, rfl, by decide, wsA_1 101 rfl rfl, in_X2, tyX2_ok, nmX2, rfl, tyX2_ok 2 (by decide), fun h => rfl⟩
set_option maxRecDepth 20000 in
theorem fl_X2_11 : kFL RX2 11 2 0 := ⟨RX2, TX2, 3, rfl, by decide, wsA_1 99 rfl rfl, in_X2⟩
set_option maxRecDepth 20000 in
theorem fl_X2_15 : kFL RX2 15 2 1 := ⟨RX2, TX2, 3, rfl, by decide, wsA_1 100 rfl rfl, in_X2⟩
set_option maxRecDepth 20000 in
theorem fl_X2_19 : kFL RX2 19 2 2 := ⟨RX2, TX2, 3, rfl, by decide, wsA_1 101 rfl rfl, in_X2⟩
set_option maxRecDepth 20000 in
theorem fp_X3_11 : kFP RX3 11 3 0 (.array .int) true := ⟨RX3, TX3, 3, tyX3, rfl, by decide, wsA_1 177 rfl rfl, in_X3, tyX3_ok, nmX3, rfl, tyX3_ok 0 (by decide), fun h => rfl⟩
set_option maxRecDepth 20000 in
theorem fp_X3_15 : kFP RX3 15 3 1 (.array .int) true := ⟨RX3, TX3, 3, tyX3, rfl, by decide, wsA_1 178 rfl rfl, in_X3, tyX3_ok, nmX3, rfl, tyX3_ok 1 (by decide), fun h => rfl⟩
set_option maxRecDepth 20000 in
theorem fp_X3_18 : kFP RX3 18 3 2 (.array .int) true := ⟨RX3, TX3, 3, tyX3, rfl, by decide, wsA_1 179 rfl rfl, in_X3, tyX3_ok, nmX3, rfl, tyX3_ok 2 (by decide), fun h => rfl⟩
set_option maxRecDepth 20000 in
theorem fl_X3_11 : kFL RX3 11 3 0 := ⟨RX3, TX3, 3, rfl, by decide, wsA_1 177 rfl rfl, in_X3⟩
set_option maxRecDepth 20000 in
theorem fl_X3_18 : kFL RX3 18 3 2 := ⟨RX3, TX3, 3, rfl, by decide, wsA_1 179 rfl rfl, in_X3⟩
set_option maxRecDepth 20000 in
theorem fl_X3_15 : kFL RX3 15 3 1 := ⟨RX3, TX3, 3, rfl, by decide, wsA_1 178 rfl rfl, in_X3⟩
set_option maxRecDepth 20000 in
theorem fp_X4_9 : kFP RX4 9 4 0 .int false := ⟨RX4, TX4, 2, tyX4, rfl, by decide, wsA_1 57 rfl rfl, in_X4, tyX4_ok, nmX4, rfl, tyX4_ok 0 (by decide), fun h => absurd h (by decide)⟩
set_option maxRecDepth 20000 in
theorem fp_X4_15 : kFP RX4 15 4 1 (.array .int) true := ⟨RX4, TX4, 2, tyX4, rfl, by decide, wsA_1 59 rfl rfl, in_X4, tyX4_ok, nmX4, rfl, tyX4_ok 1 (by decide), fun h => rfl⟩
set_option maxRecDepth 20000 in
theorem fl_X4_9 : kFL RX4 9 4 0 := ⟨RX4, TX4, 2, rfl, by decide, wsA_1 57 rfl rfl, in_X4⟩
set_option maxRecDepth 20000 in
theorem fl_X4_15 : kFL RX4 15 4 1 := ⟨RX4, TX4, 2, rfl, by decide, wsA_1 59 rfl rfl, in_X4⟩
set_option maxRecDepth 20000 in
theorem fp_X5_9 : kFP RX5 9 5 0 .int false := ⟨RX5, TX5, 2, tyX5, rfl, by decide, wsA_1 71 rfl rfl, in_X5, tyX5_ok, nmX5, rfl, tyX5_ok 0 (by decide), fun h => absurd h (by decide)⟩
set_option maxRecDepth 20000 in
theorem fp_X5_15 : kFP RX5 15 5 1 (.array .int) true := ⟨RX5, TX5, 2, tyX5, rfl, by decide, wsA_1 73 rfl rfl, in_X5, tyX5_ok, nmX5, rfl, tyX5_ok 1 (by decide), fun h => rfl⟩
set_option maxRecDepth 20000 in
theorem fl_X5_9 : kFL RX5 9 5 0 := ⟨RX5, TX5, 2, rfl, by decide, wsA_1 71 rfl rfl, in_X5⟩
set_option maxRecDepth 20000 in
theorem fl_X5_15 : kFL RX5 15 5 1 := ⟨RX5, TX5, 2, rfl, by decide, wsA_1 73 rfl rfl, in_X5⟩
set_option maxRecDepth 20000 in
theorem fp_X6_9 : kFP RX6 9 6 0 .int false := ⟨RX6, TX6, 2, tyX6, rfl, by decide, wsA_1 85 rfl rfl, in_X6, tyX6_ok, nmX6, rfl, tyX6_ok 0 (by decide), fun h => absurd h (by decide)⟩
set_option maxRecDepth 20000 in
theorem fp_X6_15 : kFP RX6 15 6 1 (.array .int) true := ⟨RX6, TX6, 2, tyX6, rfl, by decide, wsA_1 87 rfl rfl, in_X6, tyX6_ok, nmX6, rfl, tyX6_ok 1 (by decide), fun h => rfl⟩
set_option maxRecDepth 20000 in
theorem fl_X6_9 : kFL RX6 9 6 0 := ⟨RX6, TX6, 2, rfl, by decide, wsA_1 85 rfl rfl, in_X6⟩
set_option maxRecDepth 20000 in
theorem fl_X6_15 : kFL RX6 15 6 1 := ⟨RX6, TX6, 2, rfl, by decide, wsA_1 87 rfl rfl, in_X6⟩
set_option maxRecDepth 20000 in
theorem fp_X7_13 : kFP RX7 13 7 0 (.array .boolean) true := ⟨RX7, TX7, 6, tyX7, rfl, by decide, wsA_1 193 rfl rfl, in_X7, tyX7_ok, nmX7, rfl, tyX7_ok 0 (by decide), fun h => rfl⟩
set_option maxRecDepth 20000 in
theorem fp_X7_17 : kFP RX7 17 7 1 (.array .int) true := ⟨RX7, TX7, 6, tyX7, rfl, by decide, wsA_1 194 rfl rfl, in_X7, tyX7_ok, nmX7, rfl, tyX7_ok 1 (by decide), fun h => rfl⟩
set_option maxRecDepth 20000 in
theorem fp_X7_21 : kFP RX7 21 7 2 (.array .int) true := ⟨RX7, TX7, 6, tyX7, rfl, by decide, wsA_1 195 rfl rfl, in_X7, tyX7_ok, nmX7, rfl, tyX7_ok 2 (by decide), fun h => rfl⟩
set_option maxRecDepth 20000 in
theorem fp_X7_24 : kFP RX7 24 7 3 (.array .int) true := ⟨RX7, TX7, 6, tyX7, rfl, by decide, wsA_1 196 rfl rfl, in_X7, tyX7_ok, nmX7, rfl, tyX7_ok 3 (by decide), fun h => rfl⟩
set_option maxRecDepth 20000 in
theorem fp_X7_27 : kFP RX7 27 7 4 (.array .int) true := ⟨RX7, TX7, 6, tyX7, rfl, by decide, wsA_1 197 rfl rfl, in_X7, tyX7_ok, nmX7, rfl, tyX7_ok 4 (by decide), fun h => rfl⟩
set_option maxRecDepth 20000 in
theorem fp_X7_30 : kFP RX7 30 7 5 .int false := ⟨RX7, TX7, 6, tyX7, rfl, by decide, wsA_1 198 rfl rfl, in_X7, tyX7_ok, nmX7, rfl, tyX7_ok 5 (by decide), fun h => absurd h (by decide)⟩
set_option maxRecDepth 20000 in
theorem fl_X7_13 : kFL RX7 13 7 0 := ⟨RX7, TX7, 6, rfl, by decide, wsA_1 193 rfl rfl, in_X7⟩
set_option maxRecDepth 20000 in
theorem fl_X7_30 : kFL RX7 30 7 5 := ⟨RX7, TX7, 6, rfl, by decide, wsA_1 198 rfl rfl, in_X7⟩
set_option maxRecDepth 20000 in
theorem fl_X7_17 : kFL RX7 17 7 1 := ⟨RX7, TX7, 6, rfl, by decide, wsA_1 194 rfl rfl, in_X7⟩
set_option maxRecDepth 20000 in
theorem fl_X7_27 : kFL RX7 27 7 4 := ⟨RX7, TX7, 6, rfl, by decide, wsA_1 197 rfl rfl, in_X7⟩
set_option maxRecDepth 20000 in
theorem fl_X7_21 : kFL RX7 21 7 2 := ⟨RX7, TX7, 6, rfl, by decide, wsA_1 195 rfl rfl, in_X7⟩
set_option maxRecDepth 20000 in
theorem fl_X7_24 : kFL RX7 24 7 3 := ⟨RX7, TX7, 6, rfl, by decide, wsA_1 196 rfl rfl, in_X7⟩
set_option maxRecDepth 20000 in
theorem fp_X8_9 : kFP RX8 9 8 0 .int false := ⟨RX8, TX8, 4, tyX8, rfl, by decide, wsA_1 115 rfl rfl, in_X8, tyX8_ok, nmX8, rfl, tyX8_ok 0 (by decide), fun h => absurd h (by decide)⟩
set_option maxRecDepth 20000 in
theorem fp_X8_15 : kFP RX8 15 8 1 (.array .int) true := ⟨RX8, TX8, 4, tyX8, rfl, by decide, wsA_1 117 rfl rfl, in_X8, tyX8_ok, nmX8, rfl, tyX8_ok 1 (by decide), fun h => rfl⟩
set_option maxRecDepth 20000 in
theorem fp_X8_19 : kFP RX8 19 8 2 (.array .int) true := ⟨RX8, TX8, 4, tyX8, rfl, by decide, wsA_1 118 rfl rfl, in_X8, tyX8_ok, nmX8, rfl, tyX8_ok 2 (by decide), fun h => rfl⟩
set_option maxRecDepth 20000 in
theorem fp_X8_22 : kFP RX8 22 8 3 (.array .int) true := ⟨RX8, TX8, 4, tyX8, rfl, by decide, wsA_1 119 rfl rfl, in_X8, tyX8_ok, nmX8, rfl, tyX8_ok 3 (by decide), fun h => rfl⟩
set_option maxRecDepth 20000 in
theorem fl_X8_9 : kFL RX8 9 8 0 := ⟨RX8, TX8, 4, rfl, by decide, wsA_1 115 rfl rfl, in_X8⟩
set_option maxRecDepth 20000 in
theorem fl_X8_15 : kFL RX8 15 8 1 := ⟨RX8, TX8, 4, rfl, by decide, wsA_1 117 rfl rfl, in_X8⟩
set_option maxRecDepth 20000 in
theorem fl_X8_19 : kFL RX8 19 8 2 := ⟨RX8, TX8, 4, rfl, by decide, wsA_1 118 rfl rfl, in_X8⟩
set_option maxRecDepth 20000 in
theorem fl_X8_22 : kFL RX8 22 8 3 := ⟨RX8, TX8, 4, rfl, by decide, wsA_1 119 rfl rfl, in_X8⟩
set_option maxRecDepth 20000 in
theorem fp_X9_10 : kFP RX9 10 9 0 (.object "ChipBoards$Bins") true := ⟨RX9, TX9, 10, tyX9, rfl, by decide, wsA_1 129 rfl rfl, in_X9, tyX9_ok, nmX9, rfl, tyX9_ok 0 (by decide), fun h => rfl⟩
set_option maxRecDepth 20000 in
theorem fp_X9_19 : kFP RX9 19 9 1 (.object "ChipBoards$Lots") true := ⟨RX9, TX9, 10, tyX9, rfl, by decide, wsA_1 131 rfl rfl, in_X9, tyX9_ok, nmX9, rfl, tyX9_ok 1 (by decide), fun h => rfl⟩
set_option maxRecDepth 20000 in
theorem fp_X9_26 : kFP RX9 26 9 2 (.object "ChipBoards$Mats") true := ⟨RX9, TX9, 10, tyX9, rfl, by decide, wsA_1 133 rfl rfl, in_X9, tyX9_ok, nmX9, rfl, tyX9_ok 2 (by decide), fun h => rfl⟩
set_option maxRecDepth 20000 in
theorem fp_X9_33 : kFP RX9 33 9 3 (.object "ChipBoards$Plates") true := ⟨RX9, TX9, 10, tyX9, rfl, by decide, wsA_1 135 rfl rfl, in_X9, tyX9_ok, nmX9, rfl, tyX9_ok 3 (by decide), fun h => rfl⟩
set_option maxRecDepth 20000 in
theorem fp_X9_40 : kFP RX9 40 9 4 (.object "ChipBoards$Dryer") true := ⟨RX9, TX9, 10, tyX9, rfl, by decide, wsA_1 137 rfl rfl, in_X9, tyX9_ok, nmX9, rfl, tyX9_ok 4 (by decide), fun h => rfl⟩
set_option maxRecDepth 20000 in
theorem fp_X9_47 : kFP RX9 47 9 5 (.object "ChipBoards$Sheets") true := ⟨RX9, TX9, 10, tyX9, rfl, by decide, wsA_1 139 rfl rfl, in_X9, tyX9_ok, nmX9, rfl, tyX9_ok 5 (by decide), fun h => rfl⟩
set_option maxRecDepth 20000 in
theorem fp_X9_51 : kFP RX9 51 9 6 .int false := ⟨RX9, TX9, 10, tyX9, rfl, by decide, wsA_1 141 rfl rfl, in_X9, tyX9_ok, nmX9, rfl, tyX9_ok 6 (by decide), fun h => absurd h (by decide)⟩
set_option maxRecDepth 20000 in
theorem fp_X9_55 : kFP RX9 55 9 7 .int false := ⟨RX9, TX9, 10, tyX9, rfl, by decide, wsA_1 143 rfl rfl, in_X9, tyX9_ok, nmX9, rfl, tyX9_ok 7 (by decide), fun h => absurd h (by decide)⟩
set_option maxRecDepth 20000 in
theorem fp_X9_58 : kFP RX9 58 9 8 .int false := ⟨RX9, TX9, 10, tyX9, rfl, by decide, wsA_1 145 rfl rfl, in_X9, tyX9_ok, nmX9, rfl, tyX9_ok 8 (by decide), fun h => absurd h (by decide)⟩
set_option maxRecDepth 20000 in
theorem fp_X9_61 : kFP RX9 61 9 9 .int false := ⟨RX9, TX9, 10, tyX9, rfl, by decide, wsA_1 147 rfl rfl, in_X9, tyX9_ok, nmX9, rfl, tyX9_ok 9 (by decide), fun h => absurd h (by decide)⟩
set_option maxRecDepth 20000 in
theorem fl_X9_10 : kFL RX9 10 9 0 := ⟨RX9, TX9, 10, rfl, by decide, wsA_1 129 rfl rfl, in_X9⟩
set_option maxRecDepth 20000 in
theorem fl_X9_19 : kFL RX9 19 9 1 := ⟨RX9, TX9, 10, rfl, by decide, wsA_1 131 rfl rfl, in_X9⟩
set_option maxRecDepth 20000 in
theorem fl_X9_26 : kFL RX9 26 9 2 := ⟨RX9, TX9, 10, rfl, by decide, wsA_1 133 rfl rfl, in_X9⟩
set_option maxRecDepth 20000 in
theorem fl_X9_33 : kFL RX9 33 9 3 := ⟨RX9, TX9, 10, rfl, by decide, wsA_1 135 rfl rfl, in_X9⟩
set_option maxRecDepth 20000 in
theorem fl_X9_40 : kFL RX9 40 9 4 := ⟨RX9, TX9, 10, rfl, by decide, wsA_1 137 rfl rfl, in_X9⟩
set_option maxRecDepth 20000 in
theorem fl_X9_47 : kFL RX9 47 9 5 := ⟨RX9, TX9, 10, rfl, by decide, wsA_1 139 rfl rfl, in_X9⟩
set_option maxRecDepth 20000 in
theorem fl_X9_51 : kFL RX9 51 9 6 := ⟨RX9, TX9, 10, rfl, by decide, wsA_1 141 rfl rfl, in_X9⟩
set_option maxRecDepth 20000 in
theorem fl_X9_55 : kFL RX9 55 9 7 := ⟨RX9, TX9, 10, rfl, by decide, wsA_1 143 rfl rfl, in_X9⟩
set_option maxRecDepth 20000 in
theorem fl_X9_58 : kFL RX9 58 9 8 := ⟨RX9, TX9, 10, rfl, by decide, wsA_1 145 rfl rfl, in_X9⟩
set_option maxRecDepth 20000 in
theorem fl_X9_61 : kFL RX9 61 9 9 := ⟨RX9, TX9, 10, rfl, by decide, wsA_1 147 rfl rfl, in_X9⟩
set_option maxRecDepth 20000 in
theorem yi_10 : kYI yX10_init cX10_init 1 := ⟨wsA_1 19 rfl rfl, wsA_1 18 rfl rfl, wsA_1 1 rfl rfl, ⟨by decide +kernel, by decide +kernel, by decide +kernel⟩, by decide, rfl⟩
set_option maxRecDepth 20000 in
theorem yi_9 : kYI yX9_init cX9_init 1 := ⟨wsA_1 27 rfl rfl, wsA_1 26 rfl rfl, wsA_1 2 rfl rfl, ⟨by decide +kernel, by decide +kernel, by decide +kernel⟩, by decide, rfl⟩
set_option maxRecDepth 20000 in
theorem yi_0 : kYI yX0_init cX0_init 1 := ⟨wsA_1 33 rfl rfl, wsA_1 32 rfl rfl, wsA_1 3 rfl rfl, ⟨by decide +kernel, by decide +kernel, by decide +kernel⟩, by decide, rfl⟩
set_option maxRecDepth 20000 in
theorem yi_4 : kYI yX4_init cX4_init 1 := ⟨wsA_1 55 rfl rfl, wsA_1 54 rfl rfl, wsA_1 4 rfl rfl, ⟨by decide +kernel, by decide +kernel, by decide +kernel⟩, by decide, rfl⟩
set_option maxRecDepth 20000 in
theorem yi_5 : kYI yX5_init cX5_init 1 := ⟨wsA_1 69 rfl rfl, wsA_1 68 rfl rfl, wsA_1 5 rfl rfl, ⟨by decide +kernel, by decide +kernel, by decide +kernel⟩, by decide, rfl⟩
set_option maxRecDepth 20000 in
theorem yi_6 : kYI yX6_init cX6_init 1 := ⟨wsA_1 83 rfl rfl, wsA_1 82 rfl rfl, wsA_1 6 rfl rfl, ⟨by decide +kernel, by decide +kernel, by decide +kernel⟩, by decide, rfl⟩
set_option maxRecDepth 20000 in
theorem yi_2 : kYI yX2_init cX2_init 2 := ⟨wsA_1 97 rfl rfl, wsA_1 96 rfl rfl, wsA_1 7 rfl rfl, ⟨by decide +kernel, by decide +kernel, by decide +kernel⟩, by decide, rfl⟩
set_option maxRecDepth 20000 in
theorem yi_8 : kYI yX8_init cX8_init 1 := ⟨wsA_1 113 rfl rfl, wsA_1 112 rfl rfl, wsA_1 8 rfl rfl, ⟨by decide +kernel, by decide +kernel, by decide +kernel⟩, by decide, rfl⟩
set_option maxRecDepth 20000 in
theorem yi_3 : kYI yX3_init cX3_init 1 := ⟨wsA_1 175 rfl rfl, wsA_1 174 rfl rfl, wsA_1 9 rfl rfl, ⟨by decide +kernel, by decide +kernel, by decide +kernel⟩, by decide, rfl⟩
set_option maxRecDepth 20000 in
theorem yi_7 : kYI yX7_init cX7_init 1 := ⟨wsA_1 191 rfl rfl, wsA_1 190 rfl rfl, wsA_1 10 rfl rfl, ⟨by decide +kernel, by decide +kernel, by decide +kernel⟩, by decide, rfl⟩
set_option maxRecDepth 20000 in
theorem yi_1 : kYI yX1_init cX1_init 1 := ⟨wsA_1 216 rfl rfl, wsA_1 215 rfl rfl, wsA_1 11 rfl rfl, ⟨by decide +kernel, by decide +kernel, by decide +kernel⟩, by decide, rfl⟩
set_option maxRecDepth 20000 in
theorem yv_10_bin : kYV yX10_bin cX10_bin 3 (some .int) 10 2 := ⟨wsA_2 18 rfl rfl, wsA_2 16 rfl rfl, wsA_2 17 rfl rfl, wsA_1 1 rfl rfl, ⟨by decide +kernel, by decide +kernel, by decide +kernel⟩, by decide, TX10, 5, rfl⟩
set_option maxRecDepth 20000 in
theorem yv_0_add : kYV yX0_add cX0_add 3 (some .int) 0 2 := ⟨wsA_2 22 rfl rfl, wsA_2 20 rfl rfl, wsA_2 21 rfl rfl, wsA_1 3 rfl rfl, ⟨by decide +kernel, by decide +kernel, by decide +kernel⟩, by decide, TX0, 4, rfl⟩
set_option maxRecDepth 20000 in
theorem yv_10_fill : kYV yX10_fill cX10_fill 3 (some .int) 10 2 := ⟨wsA_2 26 rfl rfl, wsA_2 24 rfl rfl, wsA_2 25 rfl rfl, wsA_1 1 rfl rfl, ⟨by decide +kernel, by decide +kernel, by decide +kernel⟩, by decide, TX10, 5, rfl⟩
set_option maxRecDepth 20000 in
theorem yv_0_pour : kYV yX0_pour cX0_pour 3 (some .int) 0 2 := ⟨wsA_2 30 rfl rfl, wsA_2 28 rfl rfl, wsA_2 29 rfl rfl, wsA_1 3 rfl rfl, ⟨by decide +kernel, by decide +kernel, by decide +kernel⟩, by decide, TX0, 4, rfl⟩
set_option maxRecDepth 20000 in
theorem yv_0_has : kYV yX0_has cX0_has 2 (some .boolean) 0 1 := ⟨wsA_2 34 rfl rfl, wsA_2 32 rfl rfl, wsA_2 33 rfl rfl, wsA_1 3 rfl rfl, ⟨by decide +kernel, by decide +kernel, by decide +kernel⟩, by decide, TX0, 4, rfl⟩
set_option maxRecDepth 20000 in
theorem yv_10_lot : kYV yX10_lot cX10_lot 2 (some .int) 10 1 := ⟨wsA_2 39 rfl rfl, wsA_2 37 rfl rfl, wsA_2 38 rfl rfl, wsA_1 1 rfl rfl, ⟨by decide +kernel, by decide +kernel, by decide +kernel⟩, by decide, TX10, 5, rfl⟩
set_option maxRecDepth 20000 in
theorem yv_4_add : kYV yX4_add cX4_add 2 (some .int) 4 1 := ⟨wsA_2 43 rfl rfl, wsA_2 41 rfl rfl, wsA_2 42 rfl rfl, wsA_1 4 rfl rfl, ⟨by decide +kernel, by decide +kernel, by decide +kernel⟩, by decide, TX4, 2, rfl⟩
set_option maxRecDepth 20000 in
theorem yv_10_rule : kYV yX10_rule cX10_rule 4 (some .boolean) 10 2 := ⟨wsA_2 48 rfl rfl, wsA_2 46 rfl rfl, wsA_2 47 rfl rfl, wsA_1 1 rfl rfl, ⟨by decide +kernel, by decide +kernel, by decide +kernel⟩, by decide, TX10, 5, rfl⟩
set_option maxRecDepth 20000 in
theorem yv_9_setRule : kYV yX9_setRule cX9_setRule 3 (some .boolean) 9 2 := ⟨wsA_2 52 rfl rfl, wsA_2 50 rfl rfl, wsA_2 51 rfl rfl, wsA_1 2 rfl rfl, ⟨by decide +kernel, by decide +kernel, by decide +kernel⟩, by decide, TX9, 10, rfl⟩
set_option maxRecDepth 20000 in
theorem yv_1_forget : kYV yX1_forget cX1_forget 1 none 1 0 := ⟨wsA_2 56 rfl rfl, wsA_2 54 rfl rfl, wsA_2 55 rfl rfl, wsA_1 11 rfl rfl, ⟨by decide +kernel, by decide +kernel, by decide +kernel⟩, by decide, TX1, 6, rfl⟩
set_option maxRecDepth 20000 in
theorem yv_10_lay : kYV yX10_lay cX10_lay 11 (some .int) 10 3 := ⟨wsA_2 60 rfl rfl, wsA_2 58 rfl rfl, wsA_2 59 rfl rfl, wsA_1 1 rfl rfl, ⟨by decide +kernel, by decide +kernel, by decide +kernel⟩, by decide, TX10, 5, rfl⟩
set_option maxRecDepth 20000 in
theorem yv_5_isFull : kYV yX5_isFull cX5_isFull 1 (some .boolean) 5 0 := ⟨wsA_2 64 rfl rfl, wsA_2 62 rfl rfl, wsA_2 63 rfl rfl, wsA_1 5 rfl rfl, ⟨by decide +kernel, by decide +kernel, by decide +kernel⟩, by decide, TX5, 2, rfl⟩
set_option maxRecDepth 20000 in
theorem yv_0_usedPart : kYV yX0_usedPart cX0_usedPart 3 (some .int) 0 2 := ⟨wsA_2 69 rfl rfl, wsA_2 67 rfl rfl, wsA_2 68 rfl rfl, wsA_1 3 rfl rfl, ⟨by decide +kernel, by decide +kernel, by decide +kernel⟩, by decide, TX0, 4, rfl⟩
set_option maxRecDepth 20000 in
theorem yv_0_canGive : kYV yX0_canGive cX0_canGive 5 (some .boolean) 0 4 := ⟨wsA_2 73 rfl rfl, wsA_2 71 rfl rfl, wsA_2 72 rfl rfl, wsA_1 3 rfl rfl, ⟨by decide +kernel, by decide +kernel, by decide +kernel⟩, by decide, TX0, 4, rfl⟩
set_option maxRecDepth 20000 in
theorem yv_0_gramsOf : kYV yX0_gramsOf cX0_gramsOf 2 (some .int) 0 1 := ⟨wsA_2 77 rfl rfl, wsA_2 75 rfl rfl, wsA_2 76 rfl rfl, wsA_1 3 rfl rfl, ⟨by decide +kernel, by decide +kernel, by decide +kernel⟩, by decide, TX0, 4, rfl⟩
set_option maxRecDepth 20000 in
theorem yv_4_total : kYV yX4_total cX4_total 3 (some .int) 4 0 := ⟨wsA_2 81 rfl rfl, wsA_2 79 rfl rfl, wsA_2 80 rfl rfl, wsA_1 4 rfl rfl, ⟨by decide +kernel, by decide +kernel, by decide +kernel⟩, by decide, TX4, 2, rfl⟩
set_option maxRecDepth 20000 in
theorem yv_0_dampOf : kYV yX0_dampOf cX0_dampOf 2 (some .int) 0 1 := ⟨wsA_2 85 rfl rfl, wsA_2 83 rfl rfl, wsA_2 84 rfl rfl, wsA_1 3 rfl rfl, ⟨by decide +kernel, by decide +kernel, by decide +kernel⟩, by decide, TX0, 4, rfl⟩
set_option maxRecDepth 20000 in
theorem yv_0_give : kYV yX0_give cX0_give 3 none 0 2 := ⟨wsA_2 89 rfl rfl, wsA_2 87 rfl rfl, wsA_2 88 rfl rfl, wsA_1 3 rfl rfl, ⟨by decide +kernel, by decide +kernel, by decide +kernel⟩, by decide, TX0, 4, rfl⟩
set_option maxRecDepth 20000 in
theorem yv_5_add : kYV yX5_add cX5_add 1 (some .int) 5 0 := ⟨wsA_2 93 rfl rfl, wsA_2 91 rfl rfl, wsA_2 92 rfl rfl, wsA_1 5 rfl rfl, ⟨by decide +kernel, by decide +kernel, by decide +kernel⟩, by decide, TX5, 2, rfl⟩
set_option maxRecDepth 20000 in
theorem yv_5_put : kYV yX5_put cX5_put 4 none 5 3 := ⟨wsA_2 98 rfl rfl, wsA_2 96 rfl rfl, wsA_2 97 rfl rfl, wsA_1 5 rfl rfl, ⟨by decide +kernel, by decide +kernel, by decide +kernel⟩, by decide, TX5, 2, rfl⟩
set_option maxRecDepth 20000 in
theorem yv_5_has : kYV yX5_has cX5_has 2 (some .boolean) 5 1 := ⟨wsA_2 102 rfl rfl, wsA_2 100 rfl rfl, wsA_2 101 rfl rfl, wsA_1 5 rfl rfl, ⟨by decide +kernel, by decide +kernel, by decide +kernel⟩, by decide, TX5, 2, rfl⟩
set_option maxRecDepth 20000 in
theorem yv_4_draw : kYV yX4_draw cX4_draw 6 (some .int) 4 1 := ⟨wsA_2 106 rfl rfl, wsA_2 104 rfl rfl, wsA_2 105 rfl rfl, wsA_1 4 rfl rfl, ⟨by decide +kernel, by decide +kernel, by decide +kernel⟩, by decide, TX4, 2, rfl⟩
set_option maxRecDepth 20000 in
theorem yv_10_mat : kYV yX10_mat cX10_mat 3 (some .int) 10 2 := ⟨wsA_2 113 rfl rfl, wsA_2 111 rfl rfl, wsA_2 112 rfl rfl, wsA_1 1 rfl rfl, ⟨by decide +kernel, by decide +kernel, by decide +kernel⟩, by decide, TX10, 5, rfl⟩
set_option maxRecDepth 20000 in
theorem yv_5_get : kYV yX5_get cX5_get 3 (some .int) 5 2 := ⟨wsA_2 117 rfl rfl, wsA_2 115 rfl rfl, wsA_2 116 rfl rfl, wsA_1 5 rfl rfl, ⟨by decide +kernel, by decide +kernel, by decide +kernel⟩, by decide, TX5, 2, rfl⟩
set_option maxRecDepth 20000 in
theorem yv_10_recall : kYV yX10_recall cX10_recall 2 (some .int) 10 1 := ⟨wsA_2 121 rfl rfl, wsA_2 119 rfl rfl, wsA_2 120 rfl rfl, wsA_1 1 rfl rfl, ⟨by decide +kernel, by decide +kernel, by decide +kernel⟩, by decide, TX10, 5, rfl⟩
set_option maxRecDepth 20000 in
theorem yv_4_has : kYV yX4_has cX4_has 2 (some .boolean) 4 1 := ⟨wsA_2 125 rfl rfl, wsA_2 123 rfl rfl, wsA_2 124 rfl rfl, wsA_1 4 rfl rfl, ⟨by decide +kernel, by decide +kernel, by decide +kernel⟩, by decide, TX4, 2, rfl⟩
set_option maxRecDepth 20000 in
theorem yv_5_withLot : kYV yX5_withLot cX5_withLot 4 (some .int) 5 1 := ⟨wsA_2 129 rfl rfl, wsA_2 127 rfl rfl, wsA_2 128 rfl rfl, wsA_1 5 rfl rfl, ⟨by decide +kernel, by decide +kernel, by decide +kernel⟩, by decide, TX5, 2, rfl⟩
set_option maxRecDepth 20000 in
theorem yv_10_plate : kYV yX10_plate cX10_plate 2 (some .int) 10 1 := ⟨wsA_2 134 rfl rfl, wsA_2 132 rfl rfl, wsA_2 133 rfl rfl, wsA_1 1 rfl rfl, ⟨by decide +kernel, by decide +kernel, by decide +kernel⟩, by decide, TX10, 5, rfl⟩
set_option maxRecDepth 20000 in
theorem yv_6_add : kYV yX6_add cX6_add 2 (some .int) 6 1 := ⟨wsA_2 138 rfl rfl, wsA_2 136 rfl rfl, wsA_2 137 rfl rfl, wsA_1 6 rfl rfl, ⟨by decide +kernel, by decide +kernel, by decide +kernel⟩, by decide, TX6, 2, rfl⟩
set_option maxRecDepth 20000 in
theorem yv_10_time : kYV yX10_time cX10_time 3 (some .int) 10 2 := ⟨wsA_2 142 rfl rfl, wsA_2 140 rfl rfl, wsA_2 141 rfl rfl, wsA_1 1 rfl rfl, ⟨by decide +kernel, by decide +kernel, by decide +kernel⟩, by decide, TX10, 5, rfl⟩
set_option maxRecDepth 20000 in
theorem yv_10_timeOf : kYV yX10_timeOf cX10_timeOf 5 (some .int) 10 2 := ⟨wsA_2 146 rfl rfl, wsA_2 145 rfl rfl, wsA_p 0 (n := 5) rfl rfl, wsA_1 1 rfl rfl, ⟨by decide +kernel, by decide +kernel, by decide +kernel⟩, by decide, TX10, 5, rfl⟩
set_option maxRecDepth 20000 in
theorem yv_6_has : kYV yX6_has cX6_has 2 (some .boolean) 6 1 := ⟨wsA_2 151 rfl rfl, wsA_2 149 rfl rfl, wsA_2 150 rfl rfl, wsA_1 6 rfl rfl, ⟨by decide +kernel, by decide +kernel, by decide +kernel⟩, by decide, TX6, 2, rfl⟩
set_option maxRecDepth 20000 in
theorem yv_6_heatOf : kYV yX6_heatOf cX6_heatOf 2 (some .int) 6 1 := ⟨wsA_2 155 rfl rfl, wsA_2 153 rfl rfl, wsA_2 154 rfl rfl, wsA_1 6 rfl rfl, ⟨by decide +kernel, by decide +kernel, by decide +kernel⟩, by decide, TX6, 2, rfl⟩
set_option maxRecDepth 20000 in
theorem yv_3_begin : kYV yX3_begin cX3_begin 3 none 3 1 := ⟨wsA_2 160 rfl rfl, wsA_2 158 rfl rfl, wsA_2 159 rfl rfl, wsA_1 9 rfl rfl, ⟨by decide +kernel, by decide +kernel, by decide +kernel⟩, by decide, TX3, 3, rfl⟩
set_option maxRecDepth 20000 in
theorem yv_3_tick : kYV yX3_tick cX3_tick 4 none 3 0 := ⟨wsA_2 164 rfl rfl, wsA_2 162 rfl rfl, wsA_2 163 rfl rfl, wsA_1 9 rfl rfl, ⟨by decide +kernel, by decide +kernel, by decide +kernel⟩, by decide, TX3, 3, rfl⟩
set_option maxRecDepth 20000 in
theorem yv_3_mayOpen : kYV yX3_mayOpen cX3_mayOpen 4 (some .boolean) 3 2 := ⟨wsA_2 171 rfl rfl, wsA_2 169 rfl rfl, wsA_2 170 rfl rfl, wsA_1 9 rfl rfl, ⟨by decide +kernel, by decide +kernel, by decide +kernel⟩, by decide, TX3, 3, rfl⟩
set_option maxRecDepth 20000 in
theorem yv_3_steamOf : kYV yX3_steamOf cX3_steamOf 4 (some .int) 3 2 := ⟨wsA_2 175 rfl rfl, wsA_2 173 rfl rfl, wsA_2 174 rfl rfl, wsA_1 9 rfl rfl, ⟨by decide +kernel, by decide +kernel, by decide +kernel⟩, by decide, TX3, 3, rfl⟩
set_option maxRecDepth 20000 in
theorem yv_10_fastest : kYV yX10_fastest cX10_fastest 6 (some .int) 10 1 := ⟨wsA_2 179 rfl rfl, wsA_2 177 rfl rfl, wsA_2 178 rfl rfl, wsA_1 1 rfl rfl, ⟨by decide +kernel, by decide +kernel, by decide +kernel⟩, by decide, TX10, 5, rfl⟩
set_option maxRecDepth 20000 in
theorem yv_10_press : kYV yX10_press cX10_press 4 (some .boolean) 10 2 := ⟨wsA_2 183 rfl rfl, wsA_2 181 rfl rfl, wsA_2 182 rfl rfl, wsA_1 1 rfl rfl, ⟨by decide +kernel, by decide +kernel, by decide +kernel⟩, by decide, TX10, 5, rfl⟩
set_option maxRecDepth 20000 in
theorem yv_5_isPressed : kYV yX5_isPressed cX5_isPressed 2 (some .boolean) 5 1 := ⟨wsA_2 187 rfl rfl, wsA_2 185 rfl rfl, wsA_2 186 rfl rfl, wsA_1 5 rfl rfl, ⟨by decide +kernel, by decide +kernel, by decide +kernel⟩, by decide, TX5, 2, rfl⟩
set_option maxRecDepth 20000 in
theorem yv_10_shell : kYV yX10_shell cX10_shell 7 (some .int) 10 5 := ⟨wsA_2 191 rfl rfl, wsA_2 189 rfl rfl, wsA_2 190 rfl rfl, wsA_1 1 rfl rfl, ⟨by decide +kernel, by decide +kernel, by decide +kernel⟩, by decide, TX10, 5, rfl⟩
set_option maxRecDepth 20000 in
theorem yv_3_heatOf : kYV yX3_heatOf cX3_heatOf 2 (some .int) 3 1 := ⟨wsA_2 195 rfl rfl, wsA_2 193 rfl rfl, wsA_2 194 rfl rfl, wsA_1 9 rfl rfl, ⟨by decide +kernel, by decide +kernel, by decide +kernel⟩, by decide, TX3, 3, rfl⟩
set_option maxRecDepth 20000 in
theorem yv_3_cureOf : kYV yX3_cureOf cX3_cureOf 2 (some .int) 3 1 := ⟨wsA_2 199 rfl rfl, wsA_2 197 rfl rfl, wsA_2 198 rfl rfl, wsA_1 9 rfl rfl, ⟨by decide +kernel, by decide +kernel, by decide +kernel⟩, by decide, TX3, 3, rfl⟩
set_option maxRecDepth 20000 in
theorem yv_10_link : kYV yX10_link cX10_link 4 (some .boolean) 10 3 := ⟨wsA_2 204 rfl rfl, wsA_2 202 rfl rfl, wsA_2 203 rfl rfl, wsA_1 1 rfl rfl, ⟨by decide +kernel, by decide +kernel, by decide +kernel⟩, by decide, TX10, 5, rfl⟩
set_option maxRecDepth 20000 in
theorem yv_2_lead : kYV yX2_lead cX2_lead 4 (some .boolean) 2 3 := ⟨wsA_2 208 rfl rfl, wsA_2 206 rfl rfl, wsA_2 207 rfl rfl, wsA_1 7 rfl rfl, ⟨by decide +kernel, by decide +kernel, by decide +kernel⟩, by decide, TX2, 3, rfl⟩
set_option maxRecDepth 20000 in
theorem ys_2_isState : kYS yX2_isState cX2_isState 1 (some .boolean) 1 := ⟨wsA_2 211 rfl rfl, wsA_2 210 rfl rfl, wsA_1 7 rfl rfl, ⟨by decide +kernel, by decide +kernel, by decide +kernel⟩, by decide⟩
set_option maxRecDepth 20000 in
theorem ys_2_isEvent : kYS yX2_isEvent cX2_isEvent 1 (some .boolean) 1 := ⟨wsA_2 214 rfl rfl, wsA_2 213 rfl rfl, wsA_1 7 rfl rfl, ⟨by decide +kernel, by decide +kernel, by decide +kernel⟩, by decide⟩
set_option maxRecDepth 20000 in
theorem yv_10_state : kYV yX10_state cX10_state 4 (some .boolean) 10 3 := ⟨wsA_2 218 rfl rfl, wsA_2 216 rfl rfl, wsA_2 217 rfl rfl, wsA_1 1 rfl rfl, ⟨by decide +kernel, by decide +kernel, by decide +kernel⟩, by decide, TX10, 5, rfl⟩
set_option maxRecDepth 20000 in
theorem yv_2_equip : kYV yX2_equip cX2_equip 4 (some .boolean) 2 3 := ⟨wsA_2 222 rfl rfl, wsA_2 220 rfl rfl, wsA_2 221 rfl rfl, wsA_1 7 rfl rfl, ⟨by decide +kernel, by decide +kernel, by decide +kernel⟩, by decide, TX2, 3, rfl⟩
set_option maxRecDepth 20000 in
theorem yv_10_badRow : kYV yX10_badRow cX10_badRow 1 (some .int) 10 0 := ⟨wsA_2 226 rfl rfl, wsA_2 224 rfl rfl, wsA_2 225 rfl rfl, wsA_1 1 rfl rfl, ⟨by decide +kernel, by decide +kernel, by decide +kernel⟩, by decide, TX10, 5, rfl⟩
set_option maxRecDepth 20000 in
theorem yv_7_find : kYV yX7_find cX7_find 9 (some .int) 7 1 := ⟨wsA_2 230 rfl rfl, wsA_2 228 rfl rfl, wsA_2 229 rfl rfl, wsA_1 10 rfl rfl, ⟨by decide +kernel, by decide +kernel, by decide +kernel⟩, by decide, TX7, 6, rfl⟩
set_option maxRecDepth 20000 in
theorem yv_7_reach : kYV yX7_reach cX7_reach 4 (some .boolean) 7 3 := ⟨wsA_2 234 rfl rfl, wsA_2 233 rfl rfl, wsA_p 1 (n := 6) rfl rfl, wsA_1 10 rfl rfl, ⟨by decide +kernel, by decide +kernel, by decide +kernel⟩, by decide, TX7, 6, rfl⟩
set_option maxRecDepth 20000 in
theorem yv_2_after : kYV yX2_after cX2_after 3 (some .int) 2 2 := ⟨wsA_2 238 rfl rfl, wsA_2 236 rfl rfl, wsA_2 237 rfl rfl, wsA_1 7 rfl rfl, ⟨by decide +kernel, by decide +kernel, by decide +kernel⟩, by decide, TX2, 3, rfl⟩
set_option maxRecDepth 20000 in
theorem yv_2_waters : kYV yX2_waters cX2_waters 2 (some .boolean) 2 1 := ⟨wsA_3 2 rfl rfl, wsA_3 0 rfl rfl, wsA_3 1 rfl rfl, wsA_1 7 rfl rfl, ⟨by decide +kernel, by decide +kernel, by decide +kernel⟩, by decide, TX2, 3, rfl⟩
set_option maxRecDepth 20000 in
theorem ys_7_dangerAfter : kYS yX7_dangerAfter cX7_dangerAfter 3 (some .int) 3 := ⟨wsA_3 5 rfl rfl, wsA_3 4 rfl rfl, wsA_1 10 rfl rfl, ⟨by decide +kernel, by decide +kernel, by decide +kernel⟩, by decide⟩
set_option maxRecDepth 20000 in
theorem yv_2_feeds : kYV yX2_feeds cX2_feeds 2 (some .boolean) 2 1 := ⟨wsA_3 12 rfl rfl, wsA_3 10 rfl rfl, wsA_3 11 rfl rfl, wsA_1 7 rfl rfl, ⟨by decide +kernel, by decide +kernel, by decide +kernel⟩, by decide, TX2, 3, rfl⟩
set_option maxRecDepth 20000 in
theorem yv_7_writeRow : kYV yX7_writeRow cX7_writeRow 5 (some .int) 7 1 := ⟨wsA_3 16 rfl rfl, wsA_3 15 rfl rfl, wsA_p 2 (n := 6) rfl rfl, wsA_1 10 rfl rfl, ⟨by decide +kernel, by decide +kernel, by decide +kernel⟩, by decide, TX7, 6, rfl⟩
set_option maxRecDepth 20000 in
theorem yv_10_bad : kYV yX10_bad cX10_bad 3 (some .int) 10 1 := ⟨wsA_3 20 rfl rfl, wsA_3 18 rfl rfl, wsA_3 19 rfl rfl, wsA_1 1 rfl rfl, ⟨by decide +kernel, by decide +kernel, by decide +kernel⟩, by decide, TX10, 5, rfl⟩
set_option maxRecDepth 20000 in
theorem yv_7_eventAt : kYV yX7_eventAt cX7_eventAt 2 (some .int) 7 1 := ⟨wsA_3 24 rfl rfl, wsA_3 22 rfl rfl, wsA_3 23 rfl rfl, wsA_1 10 rfl rfl, ⟨by decide +kernel, by decide +kernel, by decide +kernel⟩, by decide, TX7, 6, rfl⟩
set_option maxRecDepth 20000 in
theorem yv_10_sheet : kYV yX10_sheet cX10_sheet 5 (some .int) 10 3 := ⟨wsA_3 28 rfl rfl, wsA_3 26 rfl rfl, wsA_3 27 rfl rfl, wsA_1 1 rfl rfl, ⟨by decide +kernel, by decide +kernel, by decide +kernel⟩, by decide, TX10, 5, rfl⟩
set_option maxRecDepth 20000 in
theorem yv_8_add : kYV yX8_add cX8_add 4 (some .int) 8 3 := ⟨wsA_3 32 rfl rfl, wsA_3 30 rfl rfl, wsA_3 31 rfl rfl, wsA_1 8 rfl rfl, ⟨by decide +kernel, by decide +kernel, by decide +kernel⟩, by decide, TX8, 4, rfl⟩
set_option maxRecDepth 20000 in
theorem ys_8_hasSides : kYS yX8_hasSides cX8_hasSides 2 (some .boolean) 2 := ⟨wsA_3 35 rfl rfl, wsA_3 34 rfl rfl, wsA_1 8 rfl rfl, ⟨by decide +kernel, by decide +kernel, by decide +kernel⟩, by decide⟩
set_option maxRecDepth 20000 in
theorem yv_10_best : kYV yX10_best cX10_best 3 (some .int) 10 2 := ⟨wsA_3 39 rfl rfl, wsA_3 37 rfl rfl, wsA_3 38 rfl rfl, wsA_1 1 rfl rfl, ⟨by decide +kernel, by decide +kernel, by decide +kernel⟩, by decide, TX10, 5, rfl⟩
set_option maxRecDepth 20000 in
theorem yv_1_prepare : kYV yX1_prepare cX1_prepare 5 none 1 2 := ⟨wsA_3 43 rfl rfl, wsA_3 41 rfl rfl, wsA_3 42 rfl rfl, wsA_1 11 rfl rfl, ⟨by decide +kernel, by decide +kernel, by decide +kernel⟩, by decide, TX1, 6, rfl⟩
set_option maxRecDepth 20000 in
theorem yv_1_choose : kYV yX1_choose cX1_choose 7 none 1 4 := ⟨wsA_3 47 rfl rfl, wsA_3 46 rfl rfl, wsA_p 3 (n := 6) rfl rfl, wsA_1 11 rfl rfl, ⟨by decide +kernel, by decide +kernel, by decide +kernel⟩, by decide, TX1, 6, rfl⟩
set_option maxRecDepth 20000 in
theorem yv_8_dearestIn : kYV yX8_dearestIn cX8_dearestIn 5 (some .int) 8 2 := ⟨wsA_3 51 rfl rfl, wsA_3 49 rfl rfl, wsA_3 50 rfl rfl, wsA_1 8 rfl rfl, ⟨by decide +kernel, by decide +kernel, by decide +kernel⟩, by decide, TX8, 4, rfl⟩
set_option maxRecDepth 20000 in
theorem yv_8_worthOf : kYV yX8_worthOf cX8_worthOf 2 (some .int) 8 1 := ⟨wsA_3 55 rfl rfl, wsA_3 53 rfl rfl, wsA_3 54 rfl rfl, wsA_1 8 rfl rfl, ⟨by decide +kernel, by decide +kernel, by decide +kernel⟩, by decide, TX8, 4, rfl⟩
set_option maxRecDepth 20000 in
theorem yv_8_has : kYV yX8_has cX8_has 2 (some .boolean) 8 1 := ⟨wsA_3 59 rfl rfl, wsA_3 57 rfl rfl, wsA_3 58 rfl rfl, wsA_1 8 rfl rfl, ⟨by decide +kernel, by decide +kernel, by decide +kernel⟩, by decide, TX8, 4, rfl⟩
set_option maxRecDepth 20000 in
theorem ys_1_place : kYS yX1_place cX1_place 2 (some .int) 2 := ⟨wsA_3 63 rfl rfl, wsA_3 62 rfl rfl, wsA_1 11 rfl rfl, ⟨by decide +kernel, by decide +kernel, by decide +kernel⟩, by decide⟩
set_option maxRecDepth 20000 in
theorem yv_1_tryCut : kYV yX1_tryCut cX1_tryCut 4 none 1 2 := ⟨wsA_3 67 rfl rfl, wsA_3 66 rfl rfl, wsA_p 4 (n := 6) rfl rfl, wsA_1 11 rfl rfl, ⟨by decide +kernel, by decide +kernel, by decide +kernel⟩, by decide, TX1, 6, rfl⟩
set_option maxRecDepth 20000 in
theorem ys_1_isPlace : kYS yX1_isPlace cX1_isPlace 1 (some .boolean) 1 := ⟨wsA_3 70 rfl rfl, wsA_3 69 rfl rfl, wsA_1 11 rfl rfl, ⟨by decide +kernel, by decide +kernel, by decide +kernel⟩, by decide⟩
set_option maxRecDepth 20000 in
theorem yv_1_writeCut : kYV yX1_writeCut cX1_writeCut 3 none 1 1 := ⟨wsA_3 74 rfl rfl, wsA_3 73 rfl rfl, wsA_p 5 (n := 6) rfl rfl, wsA_1 11 rfl rfl, ⟨by decide +kernel, by decide +kernel, by decide +kernel⟩, by decide, TX1, 6, rfl⟩
set_option maxRecDepth 20000 in
theorem yv_1_writeWhole : kYV yX1_writeWhole cX1_writeWhole 4 none 1 2 := ⟨wsA_3 78 rfl rfl, wsA_3 77 rfl rfl, wsA_p 6 (n := 6) rfl rfl, wsA_1 11 rfl rfl, ⟨by decide +kernel, by decide +kernel, by decide +kernel⟩, by decide, TX1, 6, rfl⟩
set_option maxRecDepth 20000 in
theorem yv_1_worthOf : kYV yX1_worthOf cX1_worthOf 3 (some .int) 1 2 := ⟨wsA_3 82 rfl rfl, wsA_3 80 rfl rfl, wsA_3 81 rfl rfl, wsA_1 11 rfl rfl, ⟨by decide +kernel, by decide +kernel, by decide +kernel⟩, by decide, TX1, 6, rfl⟩
set_option maxRecDepth 20000 in
theorem yv_10_cuts : kYV yX10_cuts cX10_cuts 4 (some .int) 10 3 := ⟨wsA_3 87 rfl rfl, wsA_3 85 rfl rfl, wsA_3 86 rfl rfl, wsA_1 1 rfl rfl, ⟨by decide +kernel, by decide +kernel, by decide +kernel⟩, by decide, TX10, 5, rfl⟩
set_option maxRecDepth 20000 in
theorem yv_1_cutsOf : kYV yX1_cutsOf cX1_cutsOf 3 (some .int) 1 2 := ⟨wsA_3 91 rfl rfl, wsA_3 89 rfl rfl, wsA_3 90 rfl rfl, wsA_1 11 rfl rfl, ⟨by decide +kernel, by decide +kernel, by decide +kernel⟩, by decide, TX1, 6, rfl⟩
set_option maxRecDepth 20000 in
theorem yv_1_sheetsOf : kYV yX1_sheetsOf cX1_sheetsOf 5 (some .int) 1 3 := ⟨wsA_3 96 rfl rfl, wsA_3 94 rfl rfl, wsA_3 95 rfl rfl, wsA_1 11 rfl rfl, ⟨by decide +kernel, by decide +kernel, by decide +kernel⟩, by decide, TX1, 6, rfl⟩
set_option maxRecDepth 20000 in
theorem yv_10_count : kYV yX10_count cX10_count 2 (some .int) 10 1 := ⟨wsA_3 100 rfl rfl, wsA_3 98 rfl rfl, wsA_3 99 rfl rfl, wsA_1 1 rfl rfl, ⟨by decide +kernel, by decide +kernel, by decide +kernel⟩, by decide, TX10, 5, rfl⟩
set_option maxRecDepth 20000 in
theorem yv_4_gramsOf : kYV yX4_gramsOf cX4_gramsOf 2 (some .int) 4 1 := ⟨wsA_3 105 rfl rfl, wsA_3 103 rfl rfl, wsA_3 104 rfl rfl, wsA_1 4 rfl rfl, ⟨by decide +kernel, by decide +kernel, by decide +kernel⟩, by decide, TX4, 2, rfl⟩
set_option maxRecDepth 20000 in
theorem yv_0_total : kYV yX0_total cX0_total 3 (some .int) 0 0 := ⟨wsA_3 110 rfl rfl, wsA_3 108 rfl rfl, wsA_3 109 rfl rfl, wsA_1 3 rfl rfl, ⟨by decide +kernel, by decide +kernel, by decide +kernel⟩, by decide, TX0, 4, rfl⟩
set_option maxRecDepth 20000 in
theorem yv_5_pressed : kYV yX5_pressed cX5_pressed 3 (some .int) 5 0 := ⟨wsA_3 114 rfl rfl, wsA_3 112 rfl rfl, wsA_3 113 rfl rfl, wsA_1 5 rfl rfl, ⟨by decide +kernel, by decide +kernel, by decide +kernel⟩, by decide, TX5, 2, rfl⟩
set_option maxRecDepth 20000 in
theorem yv_10_image : kYV yX10_image cX10_image 3 (some .boolean) 10 1 := ⟨wsA_3 119 rfl rfl, wsA_3 117 rfl rfl, wsA_3 118 rfl rfl, wsA_1 1 rfl rfl, ⟨by decide +kernel, by decide +kernel, by decide +kernel⟩, by decide, TX10, 5, rfl⟩
set_option maxRecDepth 20000 in
theorem yv_9_copyFrom : kYV yX9_copyFrom cX9_copyFrom 2 none 9 1 := ⟨wsA_3 123 rfl rfl, wsA_3 121 rfl rfl, wsA_3 122 rfl rfl, wsA_1 2 rfl rfl, ⟨by decide +kernel, by decide +kernel, by decide +kernel⟩, by decide, TX9, 10, rfl⟩
set_option maxRecDepth 20000 in
theorem yv_0_copyFrom : kYV yX0_copyFrom cX0_copyFrom 3 none 0 1 := ⟨wsA_3 127 rfl rfl, wsA_3 125 rfl rfl, wsA_3 126 rfl rfl, wsA_1 3 rfl rfl, ⟨by decide +kernel, by decide +kernel, by decide +kernel⟩, by decide, TX0, 4, rfl⟩
set_option maxRecDepth 20000 in
theorem yv_4_copyFrom : kYV yX4_copyFrom cX4_copyFrom 2 none 4 1 := ⟨wsA_3 131 rfl rfl, wsA_3 129 rfl rfl, wsA_3 130 rfl rfl, wsA_1 4 rfl rfl, ⟨by decide +kernel, by decide +kernel, by decide +kernel⟩, by decide, TX4, 2, rfl⟩
set_option maxRecDepth 20000 in
theorem yv_5_copyFrom : kYV yX5_copyFrom cX5_copyFrom 2 none 5 1 := ⟨wsA_3 136 rfl rfl, wsA_3 134 rfl rfl, wsA_3 135 rfl rfl, wsA_1 5 rfl rfl, ⟨by decide +kernel, by decide +kernel, by decide +kernel⟩, by decide, TX5, 2, rfl⟩
set_option maxRecDepth 20000 in
theorem yv_6_copyFrom : kYV yX6_copyFrom cX6_copyFrom 2 none 6 1 := ⟨wsA_3 141 rfl rfl, wsA_3 139 rfl rfl, wsA_3 140 rfl rfl, wsA_1 6 rfl rfl, ⟨by decide +kernel, by decide +kernel, by decide +kernel⟩, by decide, TX6, 2, rfl⟩
set_option maxRecDepth 20000 in
theorem yv_2_copyFrom : kYV yX2_copyFrom cX2_copyFrom 3 none 2 1 := ⟨wsA_3 146 rfl rfl, wsA_3 144 rfl rfl, wsA_3 145 rfl rfl, wsA_1 7 rfl rfl, ⟨by decide +kernel, by decide +kernel, by decide +kernel⟩, by decide, TX2, 3, rfl⟩
set_option maxRecDepth 20000 in
theorem yv_8_copyFrom : kYV yX8_copyFrom cX8_copyFrom 2 none 8 1 := ⟨wsA_3 151 rfl rfl, wsA_3 149 rfl rfl, wsA_3 150 rfl rfl, wsA_1 8 rfl rfl, ⟨by decide +kernel, by decide +kernel, by decide +kernel⟩, by decide, TX8, 4, rfl⟩
set_option maxRecDepth 20000 in
theorem yv_10_again : kYV yX10_again cX10_again 3 (some .boolean) 10 1 := ⟨wsA_3 156 rfl rfl, wsA_3 154 rfl rfl, wsA_3 155 rfl rfl, wsA_1 1 rfl rfl, ⟨by decide +kernel, by decide +kernel, by decide +kernel⟩, by decide, TX10, 5, rfl⟩
set_option maxRecDepth 20000 in
theorem yi_11 : kYI yX11_init cX11_init 3 := ⟨wsA_3 161 rfl rfl, wsA_3 160 rfl rfl, wsA_1 12 rfl rfl, ⟨by decide +kernel, by decide +kernel, by decide +kernel⟩, by decide, rfl⟩
set_option maxRecDepth 20000 in
theorem yv_11_bin : kYV yX11_bin cX11_bin 4 (some .int) 11 2 := ⟨wsA_3 194 rfl rfl, wsA_3 192 rfl rfl, wsA_3 193 rfl rfl, wsA_1 12 rfl rfl, ⟨by decide +kernel, by decide +kernel, by decide +kernel⟩, by decide, TX11, 9, rfl⟩
set_option maxRecDepth 20000 in
theorem ys_11_isIn : kYS yX11_isIn cX11_isIn 3 (some .boolean) 3 := ⟨wsA_3 197 rfl rfl, wsA_3 196 rfl rfl, wsA_1 12 rfl rfl, ⟨by decide +kernel, by decide +kernel, by decide +kernel⟩, by decide⟩
set_option maxRecDepth 20000 in
theorem yv_11_fill : kYV yX11_fill cX11_fill 3 (some .int) 11 2 := ⟨wsA_3 201 rfl rfl, wsA_3 199 rfl rfl, wsA_3 200 rfl rfl, wsA_1 12 rfl rfl, ⟨by decide +kernel, by decide +kernel, by decide +kernel⟩, by decide, TX11, 9, rfl⟩
set_option maxRecDepth 20000 in
theorem yv_11_isOf : kYV yX11_isOf cX11_isOf 3 (some .boolean) 11 2 := ⟨wsA_3 205 rfl rfl, wsA_3 204 rfl rfl, wsA_p 7 (n := 9) rfl rfl, wsA_1 12 rfl rfl, ⟨by decide +kernel, by decide +kernel, by decide +kernel⟩, by decide, TX11, 9, rfl⟩
set_option maxRecDepth 20000 in
theorem yv_11_lot : kYV yX11_lot cX11_lot 2 (some .int) 11 1 := ⟨wsA_3 210 rfl rfl, wsA_3 208 rfl rfl, wsA_3 209 rfl rfl, wsA_1 12 rfl rfl, ⟨by decide +kernel, by decide +kernel, by decide +kernel⟩, by decide, TX11, 9, rfl⟩
set_option maxRecDepth 20000 in
theorem yv_11_rule : kYV yX11_rule cX11_rule 3 (some .boolean) 11 2 := ⟨wsA_3 215 rfl rfl, wsA_3 213 rfl rfl, wsA_3 214 rfl rfl, wsA_1 12 rfl rfl, ⟨by decide +kernel, by decide +kernel, by decide +kernel⟩, by decide, TX11, 9, rfl⟩
set_option maxRecDepth 20000 in
theorem ys_11_leastOf : kYS yX11_leastOf cX11_leastOf 1 (some .int) 1 := ⟨wsA_3 218 rfl rfl, wsA_3 217 rfl rfl, wsA_1 12 rfl rfl, ⟨by decide +kernel, by decide +kernel, by decide +kernel⟩, by decide⟩
set_option maxRecDepth 20000 in
theorem ys_11_mostOf : kYS yX11_mostOf cX11_mostOf 1 (some .int) 1 := ⟨wsA_3 221 rfl rfl, wsA_3 220 rfl rfl, wsA_1 12 rfl rfl, ⟨by decide +kernel, by decide +kernel, by decide +kernel⟩, by decide⟩
set_option maxRecDepth 20000 in
theorem yv_11_lay : kYV yX11_lay cX11_lay 12 (some .int) 11 3 := ⟨wsA_3 225 rfl rfl, wsA_3 223 rfl rfl, wsA_3 224 rfl rfl, wsA_1 12 rfl rfl, ⟨by decide +kernel, by decide +kernel, by decide +kernel⟩, by decide, TX11, 9, rfl⟩
set_option maxRecDepth 20000 in
theorem yv_11_glueLeft : kYV yX11_glueLeft cX11_glueLeft 3 (some .int) 11 0 := ⟨wsA_3 229 rfl rfl, wsA_3 228 rfl rfl, wsA_p 8 (n := 9) rfl rfl, wsA_1 12 rfl rfl, ⟨by decide +kernel, by decide +kernel, by decide +kernel⟩, by decide, TX11, 9, rfl⟩
set_option maxRecDepth 20000 in
theorem yv_11_takes : kYV yX11_takes cX11_takes 6 (some .int) 11 1 := ⟨wsA_3 233 rfl rfl, wsA_3 232 rfl rfl, wsA_p 9 (n := 9) rfl rfl, wsA_1 12 rfl rfl, ⟨by decide +kernel, by decide +kernel, by decide +kernel⟩, by decide, TX11, 9, rfl⟩
set_option maxRecDepth 20000 in
theorem yv_11_mat : kYV yX11_mat cX11_mat 3 (some .int) 11 2 := ⟨wsA_3 237 rfl rfl, wsA_3 235 rfl rfl, wsA_3 236 rfl rfl, wsA_1 12 rfl rfl, ⟨by decide +kernel, by decide +kernel, by decide +kernel⟩, by decide, TX11, 9, rfl⟩
set_option maxRecDepth 20000 in
theorem yv_11_recall : kYV yX11_recall cX11_recall 4 (some .int) 11 1 := ⟨wsA_4 1 rfl rfl, wsA_3 239 rfl rfl, wsA_4 0 rfl rfl, wsA_1 12 rfl rfl, ⟨by decide +kernel, by decide +kernel, by decide +kernel⟩, by decide, TX11, 9, rfl⟩
set_option maxRecDepth 20000 in
theorem yv_11_plate : kYV yX11_plate cX11_plate 2 (some .int) 11 1 := ⟨wsA_4 5 rfl rfl, wsA_4 3 rfl rfl, wsA_4 4 rfl rfl, wsA_1 12 rfl rfl, ⟨by decide +kernel, by decide +kernel, by decide +kernel⟩, by decide, TX11, 9, rfl⟩
set_option maxRecDepth 20000 in
theorem yv_11_time : kYV yX11_time cX11_time 4 (some .int) 11 2 := ⟨wsA_4 9 rfl rfl, wsA_4 7 rfl rfl, wsA_4 8 rfl rfl, wsA_1 12 rfl rfl, ⟨by decide +kernel, by decide +kernel, by decide +kernel⟩, by decide, TX11, 9, rfl⟩
set_option maxRecDepth 20000 in
theorem yv_11_cold : kYV yX11_cold cX11_cold 2 none 11 0 := ⟨wsA_4 13 rfl rfl, wsA_4 12 rfl rfl, wsA_p 10 (n := 9) rfl rfl, wsA_1 12 rfl rfl, ⟨by decide +kernel, by decide +kernel, by decide +kernel⟩, by decide, TX11, 9, rfl⟩
set_option maxRecDepth 20000 in
theorem yv_11_tick : kYV yX11_tick cX11_tick 6 none 11 1 := ⟨wsA_4 17 rfl rfl, wsA_4 16 rfl rfl, wsA_p 11 (n := 9) rfl rfl, wsA_1 12 rfl rfl, ⟨by decide +kernel, by decide +kernel, by decide +kernel⟩, by decide, TX11, 9, rfl⟩
set_option maxRecDepth 20000 in
theorem yv_11_mayOpen : kYV yX11_mayOpen cX11_mayOpen 4 (some .boolean) 11 1 := ⟨wsA_4 21 rfl rfl, wsA_4 20 rfl rfl, wsA_p 12 (n := 9) rfl rfl, wsA_1 12 rfl rfl, ⟨by decide +kernel, by decide +kernel, by decide +kernel⟩, by decide, TX11, 9, rfl⟩
set_option maxRecDepth 20000 in
theorem yv_11_steam : kYV yX11_steam cX11_steam 3 (some .int) 11 2 := ⟨wsA_4 25 rfl rfl, wsA_4 24 rfl rfl, wsA_p 13 (n := 9) rfl rfl, wsA_1 12 rfl rfl, ⟨by decide +kernel, by decide +kernel, by decide +kernel⟩, by decide, TX11, 9, rfl⟩
set_option maxRecDepth 20000 in
theorem yv_11_fastest : kYV yX11_fastest cX11_fastest 6 (some .int) 11 1 := ⟨wsA_4 29 rfl rfl, wsA_4 27 rfl rfl, wsA_4 28 rfl rfl, wsA_1 12 rfl rfl, ⟨by decide +kernel, by decide +kernel, by decide +kernel⟩, by decide, TX11, 9, rfl⟩
set_option maxRecDepth 20000 in
theorem yv_11_press : kYV yX11_press cX11_press 4 (some .boolean) 11 2 := ⟨wsA_4 34 rfl rfl, wsA_4 32 rfl rfl, wsA_4 33 rfl rfl, wsA_1 12 rfl rfl, ⟨by decide +kernel, by decide +kernel, by decide +kernel⟩, by decide, TX11, 9, rfl⟩
set_option maxRecDepth 20000 in
theorem yv_11_shell : kYV yX11_shell cX11_shell 7 (some .int) 11 5 := ⟨wsA_4 38 rfl rfl, wsA_4 36 rfl rfl, wsA_4 37 rfl rfl, wsA_1 12 rfl rfl, ⟨by decide +kernel, by decide +kernel, by decide +kernel⟩, by decide, TX11, 9, rfl⟩
set_option maxRecDepth 20000 in
theorem yv_11_link : kYV yX11_link cX11_link 4 (some .boolean) 11 3 := ⟨wsA_4 42 rfl rfl, wsA_4 40 rfl rfl, wsA_4 41 rfl rfl, wsA_1 12 rfl rfl, ⟨by decide +kernel, by decide +kernel, by decide +kernel⟩, by decide, TX11, 9, rfl⟩
set_option maxRecDepth 20000 in
theorem yv_11_state : kYV yX11_state cX11_state 4 (some .boolean) 11 3 := ⟨wsA_4 46 rfl rfl, wsA_4 44 rfl rfl, wsA_4 45 rfl rfl, wsA_1 12 rfl rfl, ⟨by decide +kernel, by decide +kernel, by decide +kernel⟩, by decide, TX11, 9, rfl⟩
set_option maxRecDepth 20000 in
theorem yv_11_badRow : kYV yX11_badRow cX11_badRow 1 (some .int) 11 0 := ⟨wsA_4 50 rfl rfl, wsA_4 48 rfl rfl, wsA_4 49 rfl rfl, wsA_1 12 rfl rfl, ⟨by decide +kernel, by decide +kernel, by decide +kernel⟩, by decide, TX11, 9, rfl⟩
set_option maxRecDepth 20000 in
theorem yv_11_distances : kYV yX11_distances cX11_distances 5 none 11 0 := ⟨wsA_4 54 rfl rfl, wsA_4 53 rfl rfl, wsA_p 14 (n := 9) rfl rfl, wsA_1 12 rfl rfl, ⟨by decide +kernel, by decide +kernel, by decide +kernel⟩, by decide, TX11, 9, rfl⟩
set_option maxRecDepth 20000 in
theorem yv_11_onward : kYV yX11_onward cX11_onward 4 (some .int) 11 2 := ⟨wsA_4 58 rfl rfl, wsA_4 57 rfl rfl, wsA_p 15 (n := 9) rfl rfl, wsA_1 12 rfl rfl, ⟨by decide +kernel, by decide +kernel, by decide +kernel⟩, by decide, TX11, 9, rfl⟩
set_option maxRecDepth 20000 in
theorem yv_11_next : kYV yX11_next cX11_next 6 (some .int) 11 2 := ⟨wsA_4 62 rfl rfl, wsA_4 61 rfl rfl, wsA_p 16 (n := 9) rfl rfl, wsA_1 12 rfl rfl, ⟨by decide +kernel, by decide +kernel, by decide +kernel⟩, by decide, TX11, 9, rfl⟩
set_option maxRecDepth 20000 in
theorem yv_11_isBad : kYV yX11_isBad cX11_isBad 2 (some .boolean) 11 1 := ⟨wsA_4 66 rfl rfl, wsA_4 65 rfl rfl, wsA_p 17 (n := 9) rfl rfl, wsA_1 12 rfl rfl, ⟨by decide +kernel, by decide +kernel, by decide +kernel⟩, by decide, TX11, 9, rfl⟩
set_option maxRecDepth 20000 in
theorem yv_11_bad : kYV yX11_bad cX11_bad 6 (some .int) 11 1 := ⟨wsA_4 70 rfl rfl, wsA_4 68 rfl rfl, wsA_4 69 rfl rfl, wsA_1 12 rfl rfl, ⟨by decide +kernel, by decide +kernel, by decide +kernel⟩, by decide, TX11, 9, rfl⟩
set_option maxRecDepth 20000 in
theorem yv_11_sheet : kYV yX11_sheet cX11_sheet 5 (some .int) 11 3 := ⟨wsA_4 74 rfl rfl, wsA_4 72 rfl rfl, wsA_4 73 rfl rfl, wsA_1 12 rfl rfl, ⟨by decide +kernel, by decide +kernel, by decide +kernel⟩, by decide, TX11, 9, rfl⟩
set_option maxRecDepth 20000 in
theorem yv_11_best : kYV yX11_best cX11_best 3 (some .int) 11 2 := ⟨wsA_4 78 rfl rfl, wsA_4 76 rfl rfl, wsA_4 77 rfl rfl, wsA_1 12 rfl rfl, ⟨by decide +kernel, by decide +kernel, by decide +kernel⟩, by decide, TX11, 9, rfl⟩
set_option maxRecDepth 20000 in
theorem ys_11_isBoard : kYS yX11_isBoard cX11_isBoard 2 (some .boolean) 2 := ⟨wsA_4 81 rfl rfl, wsA_4 80 rfl rfl, wsA_1 12 rfl rfl, ⟨by decide +kernel, by decide +kernel, by decide +kernel⟩, by decide⟩
set_option maxRecDepth 20000 in
theorem yv_11_reckons : kYV yX11_reckons cX11_reckons 5 none 11 2 := ⟨wsA_4 85 rfl rfl, wsA_4 84 rfl rfl, wsA_p 18 (n := 9) rfl rfl, wsA_1 12 rfl rfl, ⟨by decide +kernel, by decide +kernel, by decide +kernel⟩, by decide, TX11, 9, rfl⟩
set_option maxRecDepth 20000 in
theorem yv_11_settles : kYV yX11_settles cX11_settles 5 none 11 2 := ⟨wsA_4 89 rfl rfl, wsA_4 88 rfl rfl, wsA_p 19 (n := 9) rfl rfl, wsA_1 12 rfl rfl, ⟨by decide +kernel, by decide +kernel, by decide +kernel⟩, by decide, TX11, 9, rfl⟩
set_option maxRecDepth 20000 in
theorem ys_11_board : kYS yX11_board cX11_board 2 (some .int) 2 := ⟨wsA_4 92 rfl rfl, wsA_4 91 rfl rfl, wsA_1 12 rfl rfl, ⟨by decide +kernel, by decide +kernel, by decide +kernel⟩, by decide⟩
set_option maxRecDepth 20000 in
theorem yv_11_tries : kYV yX11_tries cX11_tries 4 none 11 3 := ⟨wsA_4 96 rfl rfl, wsA_4 95 rfl rfl, wsA_p 20 (n := 9) rfl rfl, wsA_1 12 rfl rfl, ⟨by decide +kernel, by decide +kernel, by decide +kernel⟩, by decide, TX11, 9, rfl⟩
set_option maxRecDepth 20000 in
theorem yv_11_cuts : kYV yX11_cuts cX11_cuts 6 (some .int) 11 3 := ⟨wsA_4 100 rfl rfl, wsA_4 98 rfl rfl, wsA_4 99 rfl rfl, wsA_1 12 rfl rfl, ⟨by decide +kernel, by decide +kernel, by decide +kernel⟩, by decide, TX11, 9, rfl⟩
set_option maxRecDepth 20000 in
theorem yv_11_comes : kYV yX11_comes cX11_comes 7 (some .int) 11 3 := ⟨wsA_4 104 rfl rfl, wsA_4 103 rfl rfl, wsA_p 21 (n := 9) rfl rfl, wsA_1 12 rfl rfl, ⟨by decide +kernel, by decide +kernel, by decide +kernel⟩, by decide, TX11, 9, rfl⟩
set_option maxRecDepth 20000 in
theorem yv_11_count : kYV yX11_count cX11_count 5 (some .int) 11 1 := ⟨wsA_4 108 rfl rfl, wsA_4 106 rfl rfl, wsA_4 107 rfl rfl, wsA_1 12 rfl rfl, ⟨by decide +kernel, by decide +kernel, by decide +kernel⟩, by decide, TX11, 9, rfl⟩
set_option maxRecDepth 20000 in
theorem yv_11_image : kYV yX11_image cX11_image 3 (some .boolean) 11 1 := ⟨wsA_4 112 rfl rfl, wsA_4 110 rfl rfl, wsA_4 111 rfl rfl, wsA_1 12 rfl rfl, ⟨by decide +kernel, by decide +kernel, by decide +kernel⟩, by decide, TX11, 9, rfl⟩
set_option maxRecDepth 20000 in
theorem yv_11_again : kYV yX11_again cX11_again 3 (some .boolean) 11 1 := ⟨wsA_4 116 rfl rfl, wsA_4 114 rfl rfl, wsA_4 115 rfl rfl, wsA_1 12 rfl rfl, ⟨by decide +kernel, by decide +kernel, by decide +kernel⟩, by decide, TX11, 9, rfl⟩
set_option maxRecDepth 20000 in
theorem cl_L_7 : Cond.classLink RL 7 RX10 ∈ wsA := wsA_1 15 rfl rfl
set_option maxRecDepth 20000 in
theorem nw_L_7 : kNW RL 7 10 [.null, .null, .null, .null, .null] := ⟨RX10, TX10, 5, tyX10, rfl, in_X10, tyX10_ok, wsA_1 15 rfl rfl, wsA_1 16 rfl rfl, wsA_1 1 rfl rfl, fun j hj => by rcases (show j = 0 ∨ j = 1 ∨ j = 2 ∨ j = 3 ∨ j = 4 by omega) with rfl | rfl | rfl | rfl | rfl <;> rfl, rfl⟩
set_option maxRecDepth 20000 in
theorem ml_L_9 : Cond.methodLink RL 9 yX10_init ∈ wsA := wsA_1 17 rfl rfl
set_option maxRecDepth 20000 in
theorem ml_X10_1 : Cond.methodLink RX10 1 objectInit ∈ wsA := wsA_1 20 rfl rfl
set_option maxRecDepth 20000 in
theorem cl_X10_7 : Cond.classLink RX10 7 RX9 ∈ wsA := wsA_1 23 rfl rfl
set_option maxRecDepth 20000 in
theorem nw_X10_7 : kNW RX10 7 9 [.null, .null, .null, .null, .null, .null, .int (zI 0), .int (zI 0), .int (zI 0), .int (zI 0)] := ⟨RX9, TX9, 10, tyX9, rfl, in_X9, tyX9_ok, wsA_1 23 rfl rfl, wsA_1 24 rfl rfl, wsA_1 2 rfl rfl, fun j hj => by rcases (show j = 0 ∨ j = 1 ∨ j = 2 ∨ j = 3 ∨ j = 4 ∨ j = 5 ∨ j = 6 ∨ j = 7 ∨ j = 8 ∨ j = 9 by omega) with rfl | rfl | rfl | rfl | rfl | rfl | rfl | rfl | rfl | rfl <;> rfl, rfl⟩
set_option maxRecDepth 20000 in
theorem ml_X9_1 : Cond.methodLink RX9 1 objectInit ∈ wsA := wsA_1 28 rfl rfl
set_option maxRecDepth 20000 in
theorem cl_X9_7 : Cond.classLink RX9 7 RX0 ∈ wsA := wsA_1 29 rfl rfl
set_option maxRecDepth 20000 in
theorem nw_X9_7 : kNW RX9 7 0 [.int (zI 0), .null, .null, .null] := ⟨RX0, TX0, 4, tyX0, rfl, in_X0, tyX0_ok, wsA_1 29 rfl rfl, wsA_1 30 rfl rfl, wsA_1 3 rfl rfl, fun j hj => by rcases (show j = 0 ∨ j = 1 ∨ j = 2 ∨ j = 3 by omega) with rfl | rfl | rfl | rfl <;> rfl, rfl⟩
set_option maxRecDepth 20000 in
theorem ml_X0_3 : Cond.methodLink RX0 3 objectInit ∈ wsA := wsA_1 34 rfl rfl
set_option maxRecDepth 20000 in
theorem cl_X9_16 : Cond.classLink RX9 16 RX4 ∈ wsA := wsA_1 51 rfl rfl
set_option maxRecDepth 20000 in
theorem nw_X9_16 : kNW RX9 16 4 [.int (zI 0), .null] := ⟨RX4, TX4, 2, tyX4, rfl, in_X4, tyX4_ok, wsA_1 51 rfl rfl, wsA_1 52 rfl rfl, wsA_1 4 rfl rfl, fun j hj => by rcases (show j = 0 ∨ j = 1 by omega) with rfl | rfl <;> rfl, rfl⟩
set_option maxRecDepth 20000 in
theorem ml_X4_3 : Cond.methodLink RX4 3 objectInit ∈ wsA := wsA_1 56 rfl rfl
set_option maxRecDepth 20000 in
theorem cl_X9_23 : Cond.classLink RX9 23 RX5 ∈ wsA := wsA_1 65 rfl rfl
set_option maxRecDepth 20000 in
theorem nw_X9_23 : kNW RX9 23 5 [.int (zI 0), .null] := ⟨RX5, TX5, 2, tyX5, rfl, in_X5, tyX5_ok, wsA_1 65 rfl rfl, wsA_1 66 rfl rfl, wsA_1 5 rfl rfl, fun j hj => by rcases (show j = 0 ∨ j = 1 by omega) with rfl | rfl <;> rfl, rfl⟩
set_option maxRecDepth 20000 in
theorem ml_X5_3 : Cond.methodLink RX5 3 objectInit ∈ wsA := wsA_1 70 rfl rfl
set_option maxRecDepth 20000 in
theorem cl_X9_30 : Cond.classLink RX9 30 RX6 ∈ wsA := wsA_1 79 rfl rfl
set_option maxRecDepth 20000 in
theorem nw_X9_30 : kNW RX9 30 6 [.int (zI 0), .null] := ⟨RX6, TX6, 2, tyX6, rfl, in_X6, tyX6_ok, wsA_1 79 rfl rfl, wsA_1 80 rfl rfl, wsA_1 6 rfl rfl, fun j hj => by rcases (show j = 0 ∨ j = 1 by omega) with rfl | rfl <;> rfl, rfl⟩
set_option maxRecDepth 20000 in
theorem ml_X6_3 : Cond.methodLink RX6 3 objectInit ∈ wsA := wsA_1 84 rfl rfl
set_option maxRecDepth 20000 in
theorem cl_X9_37 : Cond.classLink RX9 37 RX2 ∈ wsA := wsA_1 93 rfl rfl
set_option maxRecDepth 20000 in
theorem nw_X9_37 : kNW RX9 37 2 [.null, .null, .null] := ⟨RX2, TX2, 3, tyX2, rfl, in_X2, tyX2_ok, wsA_1 93 rfl rfl, wsA_1 94 rfl rfl, wsA_1 7 rfl rfl, fun j hj => by rcases (show j = 0 ∨ j = 1 ∨ j = 2 by omega) with rfl | rfl | rfl <;> rfl, rfl⟩
set_option maxRecDepth 20000 in
theorem ml_X9_39 : Cond.methodLink RX9 39 yX2_init ∈ wsA := wsA_1 95 rfl rfl
set_option maxRecDepth 20000 in
theorem ml_X2_3 : Cond.methodLink RX2 3 objectInit ∈ wsA := wsA_1 98 rfl rfl
set_option maxRecDepth 20000 in
theorem cl_X9_44 : Cond.classLink RX9 44 RX8 ∈ wsA := wsA_1 109 rfl rfl
set_option maxRecDepth 20000 in
theorem nw_X9_44 : kNW RX9 44 8 [.int (zI 0), .null, .null, .null] := ⟨RX8, TX8, 4, tyX8, rfl, in_X8, tyX8_ok, wsA_1 109 rfl rfl, wsA_1 110 rfl rfl, wsA_1 8 rfl rfl, fun j hj => by rcases (show j = 0 ∨ j = 1 ∨ j = 2 ∨ j = 3 by omega) with rfl | rfl | rfl | rfl <;> rfl, rfl⟩
set_option maxRecDepth 20000 in
theorem ml_X8_3 : Cond.methodLink RX8 3 objectInit ∈ wsA := wsA_1 114 rfl rfl
set_option maxRecDepth 20000 in
theorem cl_X10_20 : Cond.classLink RX10 20 RX3 ∈ wsA := wsA_1 171 rfl rfl
set_option maxRecDepth 20000 in
theorem nw_X10_20 : kNW RX10 20 3 [.null, .null, .null] := ⟨RX3, TX3, 3, tyX3, rfl, in_X3, tyX3_ok, wsA_1 171 rfl rfl, wsA_1 172 rfl rfl, wsA_1 9 rfl rfl, fun j hj => by rcases (show j = 0 ∨ j = 1 ∨ j = 2 by omega) with rfl | rfl | rfl <;> rfl, rfl⟩
set_option maxRecDepth 20000 in
theorem ml_X3_3 : Cond.methodLink RX3 3 objectInit ∈ wsA := wsA_1 176 rfl rfl
set_option maxRecDepth 20000 in
theorem cl_X10_27 : Cond.classLink RX10 27 RX7 ∈ wsA := wsA_1 187 rfl rfl
set_option maxRecDepth 20000 in
theorem nw_X10_27 : kNW RX10 27 7 [.null, .null, .null, .null, .null, .int (zI 0)] := ⟨RX7, TX7, 6, tyX7, rfl, in_X7, tyX7_ok, wsA_1 187 rfl rfl, wsA_1 188 rfl rfl, wsA_1 10 rfl rfl, fun j hj => by rcases (show j = 0 ∨ j = 1 ∨ j = 2 ∨ j = 3 ∨ j = 4 ∨ j = 5 by omega) with rfl | rfl | rfl | rfl | rfl | rfl <;> rfl, rfl⟩
set_option maxRecDepth 20000 in
theorem ml_X7_7 : Cond.methodLink RX7 7 objectInit ∈ wsA := wsA_1 192 rfl rfl
set_option maxRecDepth 20000 in
theorem cl_X10_34 : Cond.classLink RX10 34 RX1 ∈ wsA := wsA_1 212 rfl rfl
set_option maxRecDepth 20000 in
theorem nw_X10_34 : kNW RX10 34 1 [.null, .null, .int (zI 0), .int (zI 0), .int (zI 0), .int (zI 0)] := ⟨RX1, TX1, 6, tyX1, rfl, in_X1, tyX1_ok, wsA_1 212 rfl rfl, wsA_1 213 rfl rfl, wsA_1 11 rfl rfl, fun j hj => by rcases (show j = 0 ∨ j = 1 ∨ j = 2 ∨ j = 3 ∨ j = 4 ∨ j = 5 by omega) with rfl | rfl | rfl | rfl | rfl | rfl <;> rfl, rfl⟩
set_option maxRecDepth 20000 in
theorem ml_X1_7 : Cond.methodLink RX1 7 objectInit ∈ wsA := wsA_1 217 rfl rfl
-- classLink ChipBoards$CutTable 17 [[I: wsA_1 218 rfl rfl
set_option maxRecDepth 20000 in
theorem cl_X1_17 : Cond.classLink RX1 17 "[[I" ∈ wsA := wsA_1 218 rfl rfl
set_option maxRecDepth 20000 in
theorem ml_L_13 : Cond.methodLink RL 13 yX10_bin ∈ wsA := wsA_2 15 rfl rfl
set_option maxRecDepth 20000 in
theorem ml_X10_45 : Cond.methodLink RX10 45 yX0_add ∈ wsA := wsA_2 19 rfl rfl
set_option maxRecDepth 20000 in
theorem ml_L_18 : Cond.methodLink RL 18 yX10_fill ∈ wsA := wsA_2 23 rfl rfl
set_option maxRecDepth 20000 in
theorem ml_X10_51 : Cond.methodLink RX10 51 yX0_pour ∈ wsA := wsA_2 27 rfl rfl
set_option maxRecDepth 20000 in
theorem ml_X0_26 : Cond.methodLink RX0 26 yX0_has ∈ wsA := wsA_2 31 rfl rfl
set_option maxRecDepth 20000 in
theorem kc_X0_30 : Cond.constant RX0 30 (1000000) ∈ wsA := wsA_2 35 rfl rfl
set_option maxRecDepth 20000 in
theorem ml_L_23 : Cond.methodLink RL 23 yX10_lot ∈ wsA := wsA_2 36 rfl rfl
set_option maxRecDepth 20000 in
theorem ml_X10_59 : Cond.methodLink RX10 59 yX4_add ∈ wsA := wsA_2 40 rfl rfl
set_option maxRecDepth 20000 in
theorem kc_X4_19 : Cond.constant RX4 19 (100000) ∈ wsA := wsA_2 44 rfl rfl
set_option maxRecDepth 20000 in
theorem ml_L_28 : Cond.methodLink RL 28 yX10_rule ∈ wsA := wsA_2 45 rfl rfl
set_option maxRecDepth 20000 in
theorem ml_X10_64 : Cond.methodLink RX10 64 yX9_setRule ∈ wsA := wsA_2 49 rfl rfl
set_option maxRecDepth 20000 in
theorem ml_X10_68 : Cond.methodLink RX10 68 yX1_forget ∈ wsA := wsA_2 53 rfl rfl
set_option maxRecDepth 20000 in
theorem ml_L_33 : Cond.methodLink RL 33 yX10_lay ∈ wsA := wsA_2 57 rfl rfl
set_option maxRecDepth 20000 in
theorem ml_X10_75 : Cond.methodLink RX10 75 yX5_isFull ∈ wsA := wsA_2 61 rfl rfl
set_option maxRecDepth 20000 in
theorem ml_X10_81 : Cond.methodLink RX10 81 yX0_has ∈ wsA := wsA_2 65 rfl rfl
set_option maxRecDepth 20000 in
theorem ml_X10_89 : Cond.methodLink RX10 89 yX0_usedPart ∈ wsA := wsA_2 66 rfl rfl
set_option maxRecDepth 20000 in
theorem ml_X10_92 : Cond.methodLink RX10 92 yX0_canGive ∈ wsA := wsA_2 70 rfl rfl
set_option maxRecDepth 20000 in
theorem ml_X0_31 : Cond.methodLink RX0 31 yX0_gramsOf ∈ wsA := wsA_2 74 rfl rfl
set_option maxRecDepth 20000 in
theorem ml_X10_96 : Cond.methodLink RX10 96 yX4_total ∈ wsA := wsA_2 78 rfl rfl
set_option maxRecDepth 20000 in
theorem ml_X10_103 : Cond.methodLink RX10 103 yX0_dampOf ∈ wsA := wsA_2 82 rfl rfl
set_option maxRecDepth 20000 in
theorem ml_X10_106 : Cond.methodLink RX10 106 yX0_give ∈ wsA := wsA_2 86 rfl rfl
set_option maxRecDepth 20000 in
theorem ml_X10_110 : Cond.methodLink RX10 110 yX5_add ∈ wsA := wsA_2 90 rfl rfl
set_option maxRecDepth 20000 in
theorem ml_X5_19 : Cond.methodLink RX5 19 yX5_isFull ∈ wsA := wsA_2 94 rfl rfl
set_option maxRecDepth 20000 in
theorem ml_X10_112 : Cond.methodLink RX10 112 yX5_put ∈ wsA := wsA_2 95 rfl rfl
set_option maxRecDepth 20000 in
theorem ml_X5_23 : Cond.methodLink RX5 23 yX5_has ∈ wsA := wsA_2 99 rfl rfl
set_option maxRecDepth 20000 in
theorem ml_X10_116 : Cond.methodLink RX10 116 yX4_draw ∈ wsA := wsA_2 103 rfl rfl
set_option maxRecDepth 20000 in
theorem ml_X4_24 : Cond.methodLink RX4 24 Lib.Math.min.name ∈ wsA := wsA_2 107 rfl rfl
set_option maxRecDepth 20000 in
theorem ml_L_38 : Cond.methodLink RL 38 yX10_mat ∈ wsA := wsA_2 110 rfl rfl
set_option maxRecDepth 20000 in
theorem ml_X10_119 : Cond.methodLink RX10 119 yX5_get ∈ wsA := wsA_2 114 rfl rfl
set_option maxRecDepth 20000 in
theorem ml_L_42 : Cond.methodLink RL 42 yX10_recall ∈ wsA := wsA_2 118 rfl rfl
set_option maxRecDepth 20000 in
theorem ml_X10_122 : Cond.methodLink RX10 122 yX4_has ∈ wsA := wsA_2 122 rfl rfl
set_option maxRecDepth 20000 in
theorem ml_X10_123 : Cond.methodLink RX10 123 yX5_withLot ∈ wsA := wsA_2 126 rfl rfl
set_option maxRecDepth 20000 in
theorem ml_X5_27 : Cond.methodLink RX5 27 yX5_get ∈ wsA := wsA_2 130 rfl rfl
set_option maxRecDepth 20000 in
theorem ml_L_46 : Cond.methodLink RL 46 yX10_plate ∈ wsA := wsA_2 131 rfl rfl
set_option maxRecDepth 20000 in
theorem ml_X10_130 : Cond.methodLink RX10 130 yX6_add ∈ wsA := wsA_2 135 rfl rfl
set_option maxRecDepth 20000 in
theorem ml_L_50 : Cond.methodLink RL 50 yX10_time ∈ wsA := wsA_2 139 rfl rfl
set_option maxRecDepth 20000 in
theorem ml_X10_133 : Cond.methodLink RX10 133 yX10_timeOf ∈ wsA := wsA_2 143 rfl rfl
set_option maxRecDepth 20000 in
theorem ml_X10_139 : Cond.methodLink RX10 139 yX5_has ∈ wsA := wsA_2 147 rfl rfl
set_option maxRecDepth 20000 in
theorem ml_X10_140 : Cond.methodLink RX10 140 yX6_has ∈ wsA := wsA_2 148 rfl rfl
set_option maxRecDepth 20000 in
theorem ml_X10_141 : Cond.methodLink RX10 141 yX6_heatOf ∈ wsA := wsA_2 152 rfl rfl
set_option maxRecDepth 20000 in
theorem ml_X6_19 : Cond.methodLink RX6 19 yX6_has ∈ wsA := wsA_2 156 rfl rfl
set_option maxRecDepth 20000 in
theorem ml_X10_144 : Cond.methodLink RX10 144 yX3_begin ∈ wsA := wsA_2 157 rfl rfl
set_option maxRecDepth 20000 in
theorem ml_X10_148 : Cond.methodLink RX10 148 yX3_tick ∈ wsA := wsA_2 161 rfl rfl
set_option maxRecDepth 20000 in
theorem ml_X3_21 : Cond.methodLink RX3 21 arraycopyName ∈ wsA := wsA_2 165 rfl rfl
set_option maxRecDepth 20000 in
theorem ml_X10_227 : Cond.methodLink RX10 227 yX3_mayOpen ∈ wsA := wsA_2 168 rfl rfl
set_option maxRecDepth 20000 in
theorem ml_X3_27 : Cond.methodLink RX3 27 yX3_steamOf ∈ wsA := wsA_2 172 rfl rfl
set_option maxRecDepth 20000 in
theorem ml_L_54 : Cond.methodLink RL 54 yX10_fastest ∈ wsA := wsA_2 176 rfl rfl
set_option maxRecDepth 20000 in
theorem ml_L_58 : Cond.methodLink RL 58 yX10_press ∈ wsA := wsA_2 180 rfl rfl
set_option maxRecDepth 20000 in
theorem ml_X10_136 : Cond.methodLink RX10 136 yX5_isPressed ∈ wsA := wsA_2 184 rfl rfl
set_option maxRecDepth 20000 in
theorem ml_L_62 : Cond.methodLink RL 62 yX10_shell ∈ wsA := wsA_2 188 rfl rfl
set_option maxRecDepth 20000 in
theorem ml_X10_151 : Cond.methodLink RX10 151 yX3_heatOf ∈ wsA := wsA_2 192 rfl rfl
set_option maxRecDepth 20000 in
theorem ml_X10_152 : Cond.methodLink RX10 152 yX3_cureOf ∈ wsA := wsA_2 196 rfl rfl
set_option maxRecDepth 20000 in
theorem ml_X10_155 : Cond.methodLink RX10 155 yX3_steamOf ∈ wsA := wsA_2 200 rfl rfl
set_option maxRecDepth 20000 in
theorem ml_L_67 : Cond.methodLink RL 67 yX10_link ∈ wsA := wsA_2 201 rfl rfl
set_option maxRecDepth 20000 in
theorem ml_X10_162 : Cond.methodLink RX10 162 yX2_lead ∈ wsA := wsA_2 205 rfl rfl
set_option maxRecDepth 20000 in
theorem ml_X2_22 : Cond.methodLink RX2 22 yX2_isState ∈ wsA := wsA_2 209 rfl rfl
set_option maxRecDepth 20000 in
theorem ml_X2_26 : Cond.methodLink RX2 26 yX2_isEvent ∈ wsA := wsA_2 212 rfl rfl
set_option maxRecDepth 20000 in
theorem ml_L_72 : Cond.methodLink RL 72 yX10_state ∈ wsA := wsA_2 215 rfl rfl
set_option maxRecDepth 20000 in
theorem ml_X10_168 : Cond.methodLink RX10 168 yX2_equip ∈ wsA := wsA_2 219 rfl rfl
set_option maxRecDepth 20000 in
theorem ml_L_77 : Cond.methodLink RL 77 yX10_badRow ∈ wsA := wsA_2 223 rfl rfl
set_option maxRecDepth 20000 in
theorem ml_X10_172 : Cond.methodLink RX10 172 yX7_find ∈ wsA := wsA_2 227 rfl rfl
set_option maxRecDepth 20000 in
theorem ml_X7_34 : Cond.methodLink RX7 34 yX7_reach ∈ wsA := wsA_2 231 rfl rfl
set_option maxRecDepth 20000 in
theorem ml_X7_38 : Cond.methodLink RX7 38 yX2_after ∈ wsA := wsA_2 235 rfl rfl
set_option maxRecDepth 20000 in
theorem ml_X7_42 : Cond.methodLink RX7 42 yX2_waters ∈ wsA := wsA_2 239 rfl rfl
set_option maxRecDepth 20000 in
theorem ml_X7_46 : Cond.methodLink RX7 46 yX7_dangerAfter ∈ wsA := wsA_3 3 rfl rfl
set_option maxRecDepth 20000 in
theorem ml_X7_57 : Cond.methodLink RX7 57 Lib.Math.max.name ∈ wsA := wsA_3 6 rfl rfl
set_option maxRecDepth 20000 in
theorem ml_X7_50 : Cond.methodLink RX7 50 yX2_feeds ∈ wsA := wsA_3 9 rfl rfl
set_option maxRecDepth 20000 in
theorem ml_X7_53 : Cond.methodLink RX7 53 yX7_writeRow ∈ wsA := wsA_3 13 rfl rfl
set_option maxRecDepth 20000 in
theorem ml_L_82 : Cond.methodLink RL 82 yX10_bad ∈ wsA := wsA_3 17 rfl rfl
set_option maxRecDepth 20000 in
theorem ml_X10_176 : Cond.methodLink RX10 176 yX7_eventAt ∈ wsA := wsA_3 21 rfl rfl
set_option maxRecDepth 20000 in
theorem ml_L_86 : Cond.methodLink RL 86 yX10_sheet ∈ wsA := wsA_3 25 rfl rfl
set_option maxRecDepth 20000 in
theorem ml_X10_183 : Cond.methodLink RX10 183 yX8_add ∈ wsA := wsA_3 29 rfl rfl
set_option maxRecDepth 20000 in
theorem ml_X8_25 : Cond.methodLink RX8 25 yX8_hasSides ∈ wsA := wsA_3 33 rfl rfl
set_option maxRecDepth 20000 in
theorem ml_L_90 : Cond.methodLink RL 90 yX10_best ∈ wsA := wsA_3 36 rfl rfl
set_option maxRecDepth 20000 in
theorem ml_X10_191 : Cond.methodLink RX10 191 yX1_prepare ∈ wsA := wsA_3 40 rfl rfl
set_option maxRecDepth 20000 in
theorem ml_X1_36 : Cond.methodLink RX1 36 yX1_choose ∈ wsA := wsA_3 44 rfl rfl
set_option maxRecDepth 20000 in
theorem ml_X1_48 : Cond.methodLink RX1 48 yX8_dearestIn ∈ wsA := wsA_3 48 rfl rfl
set_option maxRecDepth 20000 in
theorem ml_X8_33 : Cond.methodLink RX8 33 yX8_worthOf ∈ wsA := wsA_3 52 rfl rfl
set_option maxRecDepth 20000 in
theorem ml_X8_29 : Cond.methodLink RX8 29 yX8_has ∈ wsA := wsA_3 56 rfl rfl
set_option maxRecDepth 20000 in
theorem ml_X1_51 : Cond.methodLink RX1 51 yX8_worthOf ∈ wsA := wsA_3 60 rfl rfl
set_option maxRecDepth 20000 in
theorem ml_X1_44 : Cond.methodLink RX1 44 yX1_place ∈ wsA := wsA_3 61 rfl rfl
set_option maxRecDepth 20000 in
theorem ml_X1_55 : Cond.methodLink RX1 55 yX1_tryCut ∈ wsA := wsA_3 64 rfl rfl
set_option maxRecDepth 20000 in
theorem ml_X1_59 : Cond.methodLink RX1 59 yX1_isPlace ∈ wsA := wsA_3 68 rfl rfl
set_option maxRecDepth 20000 in
theorem ml_X1_63 : Cond.methodLink RX1 63 yX1_writeCut ∈ wsA := wsA_3 71 rfl rfl
set_option maxRecDepth 20000 in
theorem ml_X1_67 : Cond.methodLink RX1 67 yX1_writeWhole ∈ wsA := wsA_3 75 rfl rfl
set_option maxRecDepth 20000 in
theorem ml_X10_195 : Cond.methodLink RX10 195 yX1_worthOf ∈ wsA := wsA_3 79 rfl rfl
set_option maxRecDepth 20000 in
theorem ml_X1_40 : Cond.methodLink RX1 40 yX8_hasSides ∈ wsA := wsA_3 83 rfl rfl
set_option maxRecDepth 20000 in
theorem ml_L_94 : Cond.methodLink RL 94 yX10_cuts ∈ wsA := wsA_3 84 rfl rfl
set_option maxRecDepth 20000 in
theorem ml_X10_198 : Cond.methodLink RX10 198 yX1_cutsOf ∈ wsA := wsA_3 88 rfl rfl
set_option maxRecDepth 20000 in
theorem ml_X10_201 : Cond.methodLink RX10 201 yX8_has ∈ wsA := wsA_3 92 rfl rfl
set_option maxRecDepth 20000 in
theorem ml_X10_202 : Cond.methodLink RX10 202 yX1_sheetsOf ∈ wsA := wsA_3 93 rfl rfl
set_option maxRecDepth 20000 in
theorem ml_L_98 : Cond.methodLink RL 98 yX10_count ∈ wsA := wsA_3 97 rfl rfl
set_option maxRecDepth 20000 in
theorem ml_X10_205 : Cond.methodLink RX10 205 yX0_gramsOf ∈ wsA := wsA_3 101 rfl rfl
set_option maxRecDepth 20000 in
theorem ml_X10_208 : Cond.methodLink RX10 208 yX4_gramsOf ∈ wsA := wsA_3 102 rfl rfl
set_option maxRecDepth 20000 in
theorem ml_X4_20 : Cond.methodLink RX4 20 yX4_has ∈ wsA := wsA_3 106 rfl rfl
set_option maxRecDepth 20000 in
theorem ml_X10_216 : Cond.methodLink RX10 216 yX0_total ∈ wsA := wsA_3 107 rfl rfl
set_option maxRecDepth 20000 in
theorem ml_X10_217 : Cond.methodLink RX10 217 yX5_pressed ∈ wsA := wsA_3 111 rfl rfl
set_option maxRecDepth 20000 in
theorem ml_X5_31 : Cond.methodLink RX5 31 yX5_isPressed ∈ wsA := wsA_3 115 rfl rfl
set_option maxRecDepth 20000 in
theorem ml_L_102 : Cond.methodLink RL 102 yX10_image ∈ wsA := wsA_3 116 rfl rfl
set_option maxRecDepth 20000 in
theorem ml_X10_220 : Cond.methodLink RX10 220 yX9_copyFrom ∈ wsA := wsA_3 120 rfl rfl
set_option maxRecDepth 20000 in
theorem ml_X9_64 : Cond.methodLink RX9 64 yX0_copyFrom ∈ wsA := wsA_3 124 rfl rfl
set_option maxRecDepth 20000 in
theorem ml_X9_68 : Cond.methodLink RX9 68 yX4_copyFrom ∈ wsA := wsA_3 128 rfl rfl
set_option maxRecDepth 20000 in
theorem ml_X4_30 : Cond.methodLink RX4 30 arraycopyName ∈ wsA := wsA_3 132 rfl rfl
set_option maxRecDepth 20000 in
theorem ml_X9_71 : Cond.methodLink RX9 71 yX5_copyFrom ∈ wsA := wsA_3 133 rfl rfl
set_option maxRecDepth 20000 in
theorem ml_X5_34 : Cond.methodLink RX5 34 arraycopyName ∈ wsA := wsA_3 137 rfl rfl
set_option maxRecDepth 20000 in
theorem ml_X9_74 : Cond.methodLink RX9 74 yX6_copyFrom ∈ wsA := wsA_3 138 rfl rfl
set_option maxRecDepth 20000 in
theorem ml_X6_23 : Cond.methodLink RX6 23 arraycopyName ∈ wsA := wsA_3 142 rfl rfl
set_option maxRecDepth 20000 in
theorem ml_X9_77 : Cond.methodLink RX9 77 yX2_copyFrom ∈ wsA := wsA_3 143 rfl rfl
set_option maxRecDepth 20000 in
theorem ml_X2_29 : Cond.methodLink RX2 29 arraycopyName ∈ wsA := wsA_3 147 rfl rfl
set_option maxRecDepth 20000 in
theorem ml_X9_80 : Cond.methodLink RX9 80 yX8_copyFrom ∈ wsA := wsA_3 148 rfl rfl
set_option maxRecDepth 20000 in
theorem ml_X8_37 : Cond.methodLink RX8 37 arraycopyName ∈ wsA := wsA_3 152 rfl rfl
set_option maxRecDepth 20000 in
theorem ml_L_107 : Cond.methodLink RL 107 yX10_again ∈ wsA := wsA_3 153 rfl rfl
set_option maxRecDepth 20000 in
theorem cl_L_10 : Cond.classLink RL 10 RX11 ∈ wsA := wsA_3 157 rfl rfl
set_option maxRecDepth 20000 in
theorem nw_L_10 : kNW RL 10 11 [.null, .null, .null, .null, .null, .null, .null, .null, .null] := ⟨RX11, TX11, 9, tyX11, rfl, in_X11, tyX11_ok, wsA_3 157 rfl rfl, wsA_3 158 rfl rfl, wsA_1 12 rfl rfl, fun j hj => by rcases (show j = 0 ∨ j = 1 ∨ j = 2 ∨ j = 3 ∨ j = 4 ∨ j = 5 ∨ j = 6 ∨ j = 7 ∨ j = 8 by omega) with rfl | rfl | rfl | rfl | rfl | rfl | rfl | rfl | rfl <;> rfl, rfl⟩
set_option maxRecDepth 20000 in
theorem ml_L_12 : Cond.methodLink RL 12 yX11_init ∈ wsA := wsA_3 159 rfl rfl
set_option maxRecDepth 20000 in
theorem ml_X11_1 : Cond.methodLink RX11 1 objectInit ∈ wsA := wsA_3 162 rfl rfl
set_option maxRecDepth 20000 in
theorem ml_L_17 : Cond.methodLink RL 17 yX11_bin ∈ wsA := wsA_3 191 rfl rfl
set_option maxRecDepth 20000 in
theorem ml_X11_38 : Cond.methodLink RX11 38 yX11_isIn ∈ wsA := wsA_3 195 rfl rfl
set_option maxRecDepth 20000 in
theorem ml_L_22 : Cond.methodLink RL 22 yX11_fill ∈ wsA := wsA_3 198 rfl rfl
set_option maxRecDepth 20000 in
theorem ml_X11_42 : Cond.methodLink RX11 42 yX11_isOf ∈ wsA := wsA_3 202 rfl rfl
set_option maxRecDepth 20000 in
theorem kc_X11_46 : Cond.constant RX11 46 (1000000) ∈ wsA := wsA_3 206 rfl rfl
set_option maxRecDepth 20000 in
theorem ml_L_27 : Cond.methodLink RL 27 yX11_lot ∈ wsA := wsA_3 207 rfl rfl
set_option maxRecDepth 20000 in
theorem kc_X11_47 : Cond.constant RX11 47 (100000) ∈ wsA := wsA_3 211 rfl rfl
set_option maxRecDepth 20000 in
theorem ml_L_32 : Cond.methodLink RL 32 yX11_rule ∈ wsA := wsA_3 212 rfl rfl
set_option maxRecDepth 20000 in
theorem ml_X11_48 : Cond.methodLink RX11 48 yX11_leastOf ∈ wsA := wsA_3 216 rfl rfl
set_option maxRecDepth 20000 in
theorem ml_X11_52 : Cond.methodLink RX11 52 yX11_mostOf ∈ wsA := wsA_3 219 rfl rfl
set_option maxRecDepth 20000 in
theorem ml_L_37 : Cond.methodLink RL 37 yX11_lay ∈ wsA := wsA_3 222 rfl rfl
set_option maxRecDepth 20000 in
theorem ml_X11_55 : Cond.methodLink RX11 55 yX11_glueLeft ∈ wsA := wsA_3 226 rfl rfl
set_option maxRecDepth 20000 in
theorem ml_X11_59 : Cond.methodLink RX11 59 yX11_takes ∈ wsA := wsA_3 230 rfl rfl
set_option maxRecDepth 20000 in
theorem ml_L_41 : Cond.methodLink RL 41 yX11_mat ∈ wsA := wsA_3 234 rfl rfl
set_option maxRecDepth 20000 in
theorem ml_L_45 : Cond.methodLink RL 45 yX11_recall ∈ wsA := wsA_3 238 rfl rfl
set_option maxRecDepth 20000 in
theorem ml_L_49 : Cond.methodLink RL 49 yX11_plate ∈ wsA := wsA_4 2 rfl rfl
set_option maxRecDepth 20000 in
theorem ml_L_53 : Cond.methodLink RL 53 yX11_time ∈ wsA := wsA_4 6 rfl rfl
set_option maxRecDepth 20000 in
theorem ml_X11_66 : Cond.methodLink RX11 66 yX11_cold ∈ wsA := wsA_4 10 rfl rfl
set_option maxRecDepth 20000 in
theorem ml_X11_69 : Cond.methodLink RX11 69 yX11_tick ∈ wsA := wsA_4 14 rfl rfl
set_option maxRecDepth 20000 in
theorem ml_X11_73 : Cond.methodLink RX11 73 yX11_mayOpen ∈ wsA := wsA_4 18 rfl rfl
set_option maxRecDepth 20000 in
theorem ml_X11_62 : Cond.methodLink RX11 62 yX11_steam ∈ wsA := wsA_4 22 rfl rfl
set_option maxRecDepth 20000 in
theorem ml_L_57 : Cond.methodLink RL 57 yX11_fastest ∈ wsA := wsA_4 26 rfl rfl
set_option maxRecDepth 20000 in
theorem ml_X11_77 : Cond.methodLink RX11 77 yX11_time ∈ wsA := wsA_4 30 rfl rfl
set_option maxRecDepth 20000 in
theorem ml_L_61 : Cond.methodLink RL 61 yX11_press ∈ wsA := wsA_4 31 rfl rfl
set_option maxRecDepth 20000 in
theorem ml_L_66 : Cond.methodLink RL 66 yX11_shell ∈ wsA := wsA_4 35 rfl rfl
set_option maxRecDepth 20000 in
theorem ml_L_71 : Cond.methodLink RL 71 yX11_link ∈ wsA := wsA_4 39 rfl rfl
set_option maxRecDepth 20000 in
theorem ml_L_76 : Cond.methodLink RL 76 yX11_state ∈ wsA := wsA_4 43 rfl rfl
set_option maxRecDepth 20000 in
theorem ml_L_81 : Cond.methodLink RL 81 yX11_badRow ∈ wsA := wsA_4 47 rfl rfl
set_option maxRecDepth 20000 in
theorem ml_X11_89 : Cond.methodLink RX11 89 yX11_distances ∈ wsA := wsA_4 51 rfl rfl
set_option maxRecDepth 20000 in
theorem ml_X11_86 : Cond.methodLink RX11 86 yX11_onward ∈ wsA := wsA_4 55 rfl rfl
set_option maxRecDepth 20000 in
theorem ml_X11_80 : Cond.methodLink RX11 80 yX11_next ∈ wsA := wsA_4 59 rfl rfl
set_option maxRecDepth 20000 in
theorem ml_X11_83 : Cond.methodLink RX11 83 yX11_isBad ∈ wsA := wsA_4 63 rfl rfl
set_option maxRecDepth 20000 in
theorem ml_L_85 : Cond.methodLink RL 85 yX11_bad ∈ wsA := wsA_4 67 rfl rfl
set_option maxRecDepth 20000 in
theorem ml_L_89 : Cond.methodLink RL 89 yX11_sheet ∈ wsA := wsA_4 71 rfl rfl
set_option maxRecDepth 20000 in
theorem ml_L_93 : Cond.methodLink RL 93 yX11_best ∈ wsA := wsA_4 75 rfl rfl
set_option maxRecDepth 20000 in
theorem ml_X11_103 : Cond.methodLink RX11 103 yX11_isBoard ∈ wsA := wsA_4 79 rfl rfl
set_option maxRecDepth 20000 in
theorem ml_X11_106 : Cond.methodLink RX11 106 yX11_reckons ∈ wsA := wsA_4 82 rfl rfl
set_option maxRecDepth 20000 in
theorem ml_X11_99 : Cond.methodLink RX11 99 yX11_settles ∈ wsA := wsA_4 86 rfl rfl
set_option maxRecDepth 20000 in
theorem ml_X11_92 : Cond.methodLink RX11 92 yX11_board ∈ wsA := wsA_4 90 rfl rfl
set_option maxRecDepth 20000 in
theorem ml_X11_95 : Cond.methodLink RX11 95 yX11_tries ∈ wsA := wsA_4 93 rfl rfl
set_option maxRecDepth 20000 in
theorem ml_L_97 : Cond.methodLink RL 97 yX11_cuts ∈ wsA := wsA_4 97 rfl rfl
set_option maxRecDepth 20000 in
theorem ml_X11_109 : Cond.methodLink RX11 109 yX11_comes ∈ wsA := wsA_4 101 rfl rfl
set_option maxRecDepth 20000 in
theorem ml_L_101 : Cond.methodLink RL 101 yX11_count ∈ wsA := wsA_4 105 rfl rfl
set_option maxRecDepth 20000 in
theorem ml_L_106 : Cond.methodLink RL 106 yX11_image ∈ wsA := wsA_4 109 rfl rfl
set_option maxRecDepth 20000 in
theorem ml_L_110 : Cond.methodLink RL 110 yX11_again ∈ wsA := wsA_4 113 rfl rfl
set_option maxRecDepth 20000 in
theorem oi_1 : Cond.instanceMethod objectInit ∈ wsA := wsA_1 21 rfl rfl
set_option maxRecDepth 20000 in
theorem oi_2 : Cond.code objectInit ⟨#[0xb1]⟩ 1 none ∈ wsA := wsA_1 22 rfl rfl
set_option maxRecDepth 20000 in
theorem ar_I : Cond.arrayClass .int ∈ wsA := wsA_1 49 rfl rfl
set_option maxRecDepth 20000 in
theorem ar_Z : Cond.arrayClass .boolean ∈ wsA := wsA_1 50 rfl rfl
set_option maxRecDepth 20000 in
theorem ac_1 : Cond.native arraycopyName ∈ wsA := wsA_2 167 rfl rfl
set_option maxRecDepth 20000 in
theorem ac_2 : Cond.static arraycopyName ∈ wsA := wsA_2 166 rfl rfl
set_option maxRecDepth 20000 in
theorem ac_3 : Cond.initialized "java/lang/System" ∈ wsA := wsA_1 14 rfl rfl
set_option maxRecDepth 20000 in
theorem mm_0 : Cond.initialized "java/lang/Math" ∈ wsA := wsA_1 13 rfl rfl
set_option maxRecDepth 20000 in
theorem mm_min1 : Cond.static Lib.Math.min.name ∈ wsA := wsA_2 108 rfl rfl
set_option maxRecDepth 20000 in
theorem mm_min2 : Cond.code Lib.Math.min.name Lib.Math.min.code 2 (some .int) ∈ wsA := wsA_2 109 rfl rfl
set_option maxRecDepth 20000 in
theorem mm_max1 : Cond.static Lib.Math.max.name ∈ wsA := wsA_3 7 rfl rfl
set_option maxRecDepth 20000 in
theorem mm_max2 : Cond.code Lib.Math.max.name Lib.Math.max.code 2 (some .int) ∈ wsA := wsA_3 8 rfl rfl
set_option maxRecDepth 20000 in
theorem zB01 {z : Int} (h : z = 0 ∨ z = 1) : narrow .boolean (.int (zI z)) = .int (zI z) := by
  rcases h with rfl | rfl <;> rfl
