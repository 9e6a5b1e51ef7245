/-! THE LAW'S 22 CASES (printed by wip/whole/pure/p93.py) -/
theorem hX7_make_d : yX7_make.cls = RX7 ∧ yX7_make.cls ≠ "java/lang/invoke/MethodHandle" ∧ yX7_make.cls ≠ "java/lang/invoke/VarHandle" ∧ (parseMethodDescriptor yX7_make.desc).map (fun d => d.parameters.length) = some 2 := by decide +kernel
theorem hL_make_d : yL_make.cls ≠ "java/lang/invoke/MethodHandle" ∧ yL_make.cls ≠ "java/lang/invoke/VarHandle" ∧ (parseMethodDescriptor yL_make.desc).map (fun d => d.parameters.length) = some 3 := by decide +kernel
theorem hX7_seats_d : yX7_seats.cls = RX7 ∧ yX7_seats.cls ≠ "java/lang/invoke/MethodHandle" ∧ yX7_seats.cls ≠ "java/lang/invoke/VarHandle" ∧ (parseMethodDescriptor yX7_seats.desc).map (fun d => d.parameters.length) = some 2 := by decide +kernel
theorem hL_seats_d : yL_seats.cls ≠ "java/lang/invoke/MethodHandle" ∧ yL_seats.cls ≠ "java/lang/invoke/VarHandle" ∧ (parseMethodDescriptor yL_seats.desc).map (fun d => d.parameters.length) = some 3 := by decide +kernel
theorem hX6_prefer_d : yX6_prefer.cls = RX6 ∧ yX6_prefer.cls ≠ "java/lang/invoke/MethodHandle" ∧ yX6_prefer.cls ≠ "java/lang/invoke/VarHandle" ∧ (parseMethodDescriptor yX6_prefer.desc).map (fun d => d.parameters.length) = some 3 := by decide +kernel
theorem hX7_prefer_d : yX7_prefer.cls = RX7 ∧ yX7_prefer.cls ≠ "java/lang/invoke/MethodHandle" ∧ yX7_prefer.cls ≠ "java/lang/invoke/VarHandle" ∧ (parseMethodDescriptor yX7_prefer.desc).map (fun d => d.parameters.length) = some 3 := by decide +kernel
theorem hX6_forget_d : yX6_forget.cls = RX6 ∧ yX6_forget.cls ≠ "java/lang/invoke/MethodHandle" ∧ yX6_forget.cls ≠ "java/lang/invoke/VarHandle" ∧ (parseMethodDescriptor yX6_forget.desc).map (fun d => d.parameters.length) = some 2 := by decide +kernel
theorem hX7_forget_d : yX7_forget.cls = RX7 ∧ yX7_forget.cls ≠ "java/lang/invoke/MethodHandle" ∧ yX7_forget.cls ≠ "java/lang/invoke/VarHandle" ∧ (parseMethodDescriptor yX7_forget.desc).map (fun d => d.parameters.length) = some 2 := by decide +kernel
theorem hX6_listed_d : yX6_listed.cls = RX6 ∧ yX6_listed.cls ≠ "java/lang/invoke/MethodHandle" ∧ yX6_listed.cls ≠ "java/lang/invoke/VarHandle" ∧ (parseMethodDescriptor yX6_listed.desc).map (fun d => d.parameters.length) = some 3 := by decide +kernel
theorem hX7_listed_d : yX7_listed.cls = RX7 ∧ yX7_listed.cls ≠ "java/lang/invoke/MethodHandle" ∧ yX7_listed.cls ≠ "java/lang/invoke/VarHandle" ∧ (parseMethodDescriptor yX7_listed.desc).map (fun d => d.parameters.length) = some 3 := by decide +kernel
theorem hX6_work_d : yX6_work.cls = RX6 ∧ yX6_work.cls ≠ "java/lang/invoke/MethodHandle" ∧ yX6_work.cls ≠ "java/lang/invoke/VarHandle" ∧ (parseMethodDescriptor yX6_work.desc).map (fun d => d.parameters.length) = some 0 := by decide +kernel
theorem hX7_work_d : yX7_work.cls = RX7 ∧ yX7_work.cls ≠ "java/lang/invoke/MethodHandle" ∧ yX7_work.cls ≠ "java/lang/invoke/VarHandle" ∧ (parseMethodDescriptor yX7_work.desc).map (fun d => d.parameters.length) = some 0 := by decide +kernel
theorem hX6_count_d : yX6_count.cls = RX6 ∧ yX6_count.cls ≠ "java/lang/invoke/MethodHandle" ∧ yX6_count.cls ≠ "java/lang/invoke/VarHandle" ∧ (parseMethodDescriptor yX6_count.desc).map (fun d => d.parameters.length) = some 1 := by decide +kernel
theorem hX7_count_d : yX7_count.cls = RX7 ∧ yX7_count.cls ≠ "java/lang/invoke/MethodHandle" ∧ yX7_count.cls ≠ "java/lang/invoke/VarHandle" ∧ (parseMethodDescriptor yX7_count.desc).map (fun d => d.parameters.length) = some 1 := by decide +kernel
theorem hX6_hospital_d : yX6_hospital.cls = RX6 ∧ yX6_hospital.cls ≠ "java/lang/invoke/MethodHandle" ∧ yX6_hospital.cls ≠ "java/lang/invoke/VarHandle" ∧ (parseMethodDescriptor yX6_hospital.desc).map (fun d => d.parameters.length) = some 2 := by decide +kernel
theorem hX7_hospital_d : yX7_hospital.cls = RX7 ∧ yX7_hospital.cls ≠ "java/lang/invoke/MethodHandle" ∧ yX7_hospital.cls ≠ "java/lang/invoke/VarHandle" ∧ (parseMethodDescriptor yX7_hospital.desc).map (fun d => d.parameters.length) = some 2 := by decide +kernel
theorem hX6_cost_d : yX6_cost.cls = RX6 ∧ yX6_cost.cls ≠ "java/lang/invoke/MethodHandle" ∧ yX6_cost.cls ≠ "java/lang/invoke/VarHandle" ∧ (parseMethodDescriptor yX6_cost.desc).map (fun d => d.parameters.length) = some 2 := by decide +kernel
theorem hX7_cost_d : yX7_cost.cls = RX7 ∧ yX7_cost.cls ≠ "java/lang/invoke/MethodHandle" ∧ yX7_cost.cls ≠ "java/lang/invoke/VarHandle" ∧ (parseMethodDescriptor yX7_cost.desc).map (fun d => d.parameters.length) = some 2 := by decide +kernel
theorem hX6_cheapest_d : yX6_cheapest.cls = RX6 ∧ yX6_cheapest.cls ≠ "java/lang/invoke/MethodHandle" ∧ yX6_cheapest.cls ≠ "java/lang/invoke/VarHandle" ∧ (parseMethodDescriptor yX6_cheapest.desc).map (fun d => d.parameters.length) = some 1 := by decide +kernel
theorem hX7_cheapest_d : yX7_cheapest.cls = RX7 ∧ yX7_cheapest.cls ≠ "java/lang/invoke/MethodHandle" ∧ yX7_cheapest.cls ≠ "java/lang/invoke/VarHandle" ∧ (parseMethodDescriptor yX7_cheapest.desc).map (fun d => d.parameters.length) = some 1 := by decide +kernel
theorem hX6_bound_d : yX6_bound.cls = RX6 ∧ yX6_bound.cls ≠ "java/lang/invoke/MethodHandle" ∧ yX6_bound.cls ≠ "java/lang/invoke/VarHandle" ∧ (parseMethodDescriptor yX6_bound.desc).map (fun d => d.parameters.length) = some 3 := by decide +kernel
theorem hX7_bound_d : yX7_bound.cls = RX7 ∧ yX7_bound.cls ≠ "java/lang/invoke/MethodHandle" ∧ yX7_bound.cls ≠ "java/lang/invoke/VarHandle" ∧ (parseMethodDescriptor yX7_bound.desc).map (fun d => d.parameters.length) = some 3 := by decide +kernel
theorem hX6_behind_d : yX6_behind.cls = RX6 ∧ yX6_behind.cls ≠ "java/lang/invoke/MethodHandle" ∧ yX6_behind.cls ≠ "java/lang/invoke/VarHandle" ∧ (parseMethodDescriptor yX6_behind.desc).map (fun d => d.parameters.length) = some 2 := by decide +kernel
theorem hX7_behind_d : yX7_behind.cls = RX7 ∧ yX7_behind.cls ≠ "java/lang/invoke/MethodHandle" ∧ yX7_behind.cls ≠ "java/lang/invoke/VarHandle" ∧ (parseMethodDescriptor yX7_behind.desc).map (fun d => d.parameters.length) = some 2 := by decide +kernel
theorem hX6_rotation_d : yX6_rotation.cls = RX6 ∧ yX6_rotation.cls ≠ "java/lang/invoke/MethodHandle" ∧ yX6_rotation.cls ≠ "java/lang/invoke/VarHandle" ∧ (parseMethodDescriptor yX6_rotation.desc).map (fun d => d.parameters.length) = some 3 := by decide +kernel
theorem hX7_rotation_d : yX7_rotation.cls = RX7 ∧ yX7_rotation.cls ≠ "java/lang/invoke/MethodHandle" ∧ yX7_rotation.cls ≠ "java/lang/invoke/VarHandle" ∧ (parseMethodDescriptor yX7_rotation.desc).map (fun d => d.parameters.length) = some 3 := by decide +kernel
theorem hX6_done_d : yX6_done.cls = RX6 ∧ yX6_done.cls ≠ "java/lang/invoke/MethodHandle" ∧ yX6_done.cls ≠ "java/lang/invoke/VarHandle" ∧ (parseMethodDescriptor yX6_done.desc).map (fun d => d.parameters.length) = some 2 := by decide +kernel
theorem hX7_done_d : yX7_done.cls = RX7 ∧ yX7_done.cls ≠ "java/lang/invoke/MethodHandle" ∧ yX7_done.cls ≠ "java/lang/invoke/VarHandle" ∧ (parseMethodDescriptor yX7_done.desc).map (fun d => d.parameters.length) = some 2 := by decide +kernel
theorem hX6_before_d : yX6_before.cls = RX6 ∧ yX6_before.cls ≠ "java/lang/invoke/MethodHandle" ∧ yX6_before.cls ≠ "java/lang/invoke/VarHandle" ∧ (parseMethodDescriptor yX6_before.desc).map (fun d => d.parameters.length) = some 2 := by decide +kernel
theorem hX7_before_d : yX7_before.cls = RX7 ∧ yX7_before.cls ≠ "java/lang/invoke/MethodHandle" ∧ yX7_before.cls ≠ "java/lang/invoke/VarHandle" ∧ (parseMethodDescriptor yX7_before.desc).map (fun d => d.parameters.length) = some 2 := by decide +kernel
theorem hX7_tell_d : yX7_tell.cls = RX7 ∧ yX7_tell.cls ≠ "java/lang/invoke/MethodHandle" ∧ yX7_tell.cls ≠ "java/lang/invoke/VarHandle" ∧ (parseMethodDescriptor yX7_tell.desc).map (fun d => d.parameters.length) = some 2 := by decide +kernel
theorem hL_tell_d : yL_tell.cls ≠ "java/lang/invoke/MethodHandle" ∧ yL_tell.cls ≠ "java/lang/invoke/VarHandle" ∧ (parseMethodDescriptor yL_tell.desc).map (fun d => d.parameters.length) = some 3 := by decide +kernel
theorem hX7_take_d : yX7_take.cls = RX7 ∧ yX7_take.cls ≠ "java/lang/invoke/MethodHandle" ∧ yX7_take.cls ≠ "java/lang/invoke/VarHandle" ∧ (parseMethodDescriptor yX7_take.desc).map (fun d => d.parameters.length) = some 1 := by decide +kernel
theorem hL_take_d : yL_take.cls ≠ "java/lang/invoke/MethodHandle" ∧ yL_take.cls ≠ "java/lang/invoke/VarHandle" ∧ (parseMethodDescriptor yL_take.desc).map (fun d => d.parameters.length) = some 2 := by decide +kernel
theorem hX6_fits_d : yX6_fits.cls = RX6 ∧ yX6_fits.cls ≠ "java/lang/invoke/MethodHandle" ∧ yX6_fits.cls ≠ "java/lang/invoke/VarHandle" ∧ (parseMethodDescriptor yX6_fits.desc).map (fun d => d.parameters.length) = some 0 := by decide +kernel
theorem hX7_fits_d : yX7_fits.cls = RX7 ∧ yX7_fits.cls ≠ "java/lang/invoke/MethodHandle" ∧ yX7_fits.cls ≠ "java/lang/invoke/VarHandle" ∧ (parseMethodDescriptor yX7_fits.desc).map (fun d => d.parameters.length) = some 0 := by decide +kernel
theorem hX6_blocks_d : yX6_blocks.cls = RX6 ∧ yX6_blocks.cls ≠ "java/lang/invoke/MethodHandle" ∧ yX6_blocks.cls ≠ "java/lang/invoke/VarHandle" ∧ (parseMethodDescriptor yX6_blocks.desc).map (fun d => d.parameters.length) = some 0 := by decide +kernel
theorem hX7_blocks_d : yX7_blocks.cls = RX7 ∧ yX7_blocks.cls ≠ "java/lang/invoke/MethodHandle" ∧ yX7_blocks.cls ≠ "java/lang/invoke/VarHandle" ∧ (parseMethodDescriptor yX7_blocks.desc).map (fun d => d.parameters.length) = some 0 := by decide +kernel
theorem hX6_blocking_d : yX6_blocking.cls = RX6 ∧ yX6_blocking.cls ≠ "java/lang/invoke/MethodHandle" ∧ yX6_blocking.cls ≠ "java/lang/invoke/VarHandle" ∧ (parseMethodDescriptor yX6_blocking.desc).map (fun d => d.parameters.length) = some 1 := by decide +kernel
theorem hX7_blocking_d : yX7_blocking.cls = RX7 ∧ yX7_blocking.cls ≠ "java/lang/invoke/MethodHandle" ∧ yX7_blocking.cls ≠ "java/lang/invoke/VarHandle" ∧ (parseMethodDescriptor yX7_blocking.desc).map (fun d => d.parameters.length) = some 1 := by decide +kernel
theorem hX6_which_d : yX6_which.cls = RX6 ∧ yX6_which.cls ≠ "java/lang/invoke/MethodHandle" ∧ yX6_which.cls ≠ "java/lang/invoke/VarHandle" ∧ (parseMethodDescriptor yX6_which.desc).map (fun d => d.parameters.length) = some 0 := by decide +kernel
theorem hX7_which_d : yX7_which.cls = RX7 ∧ yX7_which.cls ≠ "java/lang/invoke/MethodHandle" ∧ yX7_which.cls ≠ "java/lang/invoke/VarHandle" ∧ (parseMethodDescriptor yX7_which.desc).map (fun d => d.parameters.length) = some 0 := by decide +kernel
theorem hX6_check_d : yX6_check.cls = RX6 ∧ yX6_check.cls ≠ "java/lang/invoke/MethodHandle" ∧ yX6_check.cls ≠ "java/lang/invoke/VarHandle" ∧ (parseMethodDescriptor yX6_check.desc).map (fun d => d.parameters.length) = some 0 := by decide +kernel
theorem hX7_check_d : yX7_check.cls = RX7 ∧ yX7_check.cls ≠ "java/lang/invoke/MethodHandle" ∧ yX7_check.cls ≠ "java/lang/invoke/VarHandle" ∧ (parseMethodDescriptor yX7_check.desc).map (fun d => d.parameters.length) = some 0 := by decide +kernel
theorem hX7_thrown_d : yX7_thrown.cls = RX7 ∧ yX7_thrown.cls ≠ "java/lang/invoke/MethodHandle" ∧ yX7_thrown.cls ≠ "java/lang/invoke/VarHandle" ∧ (parseMethodDescriptor yX7_thrown.desc).map (fun d => d.parameters.length) = some 0 := by decide +kernel
abbrev lwV (a d : Nat → Nat) (b i : Nat) : List (Nat × Value) := [(0, .ref b), (1, .ref (a 0)), (2, .ref (d 0)), (3, .int (iN (i : Int)))]
def lwK (p : Program) (l : Launch) (e : Env) (s : State) (m : MethodId) (below : List Frame) (meth : Method) (c : Code) (dC : Nat → ClassId) (dI : Nat → Nat → Nat) (cI cA : ClassId) (a d : Nat → Nat) (b i cells slots : Nat) : Prop := ∀ (H1 : Heap) (locs1 : List Loc) (ls1 : Array Slot) (σ1 τ1 : Mem) (c1 s1 : Nat), c1 ≤ cells + 1 → s1 ≤ slots + 6 → lwI dC dI cI cA a d s H1 locs1 σ1 τ1 → lv_has ls1 5 (lwV a d b i) → W p l e room_1 s m #[Value.ref b] below meth c H1 locs1 c1 s1 (lw_Z below #[Value.ref b] s) (F0 m 806 ls1 [])
section LC
variable {p : Program} {l : Launch} {e : Env} {s : State} {m : MethodId} {below : List Frame} {meth : Method} {c : Code} {b L : Nat} {xs : Nat → Int32} {dC : Nat → ClassId} {dI : Nat → Nat → Nat} {cI cA : ClassId} {a d : Nat → Nat} {H : Heap} {locs : List Loc} {ls : Array Slot} {σ τ : Mem} {cells slots i : Nat}
set_option maxHeartbeats 4000000 in
set_option maxRecDepth 100000 in
theorem lw_make (hL : L ≤ 2048) (hst : l.stackTraces = false) (C0 : lw_At p s m meth c b L xs) (hG : lwC dC dI cI cA a d s) (hiL : i + 4 ≤ L) (hI : lwI dC dI cI cA a d s H locs σ τ) (hc : cells + 1 ≤ 601024) (hs : slots + 6 ≤ 7293034) (hl : lv_has ls 5 (lwV a d b i)) (K : lwK p l e s m below meth c dC dI cI cA a d b i cells slots) : W p l e room_1 s m #[Value.ref b] below meth c H locs cells slots (lw_Z below #[Value.ref b] s) (F0 m 136 ls []) := by
  obtain ⟨hx, hb, hr, hml, hown, hts0, hX, hbl, hlocks, hgv⟩ := id C0
  have hts : ∀ w ∈ wsL_law, w.before #[Value.ref b] s = true := fun w h => hts0 w (wsL_law_in w h)
  have hbA : ¬ A0 s b := Nat.not_le.mpr hbl
  obtain ⟨apA, apM, hne, hK, hN, hW, hU, hZ⟩ := hG
  obtain ⟨hP, hT, hS, hR, hR7, n9, m9, hcp⟩ := hI
  obtain ⟨k, σ2, τ2, n2, m2, hM, f2, e0, rk, hcp2⟩ := wMake l dC dI cI cA a apA.1 hst hcp hR (xz_rng xs (i + 1)) (xz_rng xs (i + 2))
  refine lv_aload_n hx hb dL_law_136 rfl (lv_at hl 1 rfl) ?_
  refine lv_aload_n hx hb dL_law_137 rfl (lv_at hl 0 rfl) ?_
  refine lv_iload_n hx hb dL_law_138 rfl (lv_at hl 3 rfl) ?_
  refine lv_iconst (v := iN 1) hx hb dL_law_139 rfl ?_
  refine x_iadd hx hb dL_law_140 ?_
  refine x_sld (A := A0 s) (j := i + 1) hx hb hX hbl hbA hS (by omega) (by omega) hL dL_law_141 ?_
  refine lv_aload_n hx hb dL_law_142 rfl (lv_at hl 0 rfl) ?_
  refine lv_iload_n hx hb dL_law_143 rfl (lv_at hl 3 rfl) ?_
  refine lv_iconst (v := iN 2) hx hb dL_law_144 rfl ?_
  refine x_iadd hx hb dL_law_145 ?_
  refine x_sld (A := A0 s) (j := i + 2) hx hb hX hbl hbA hS (by omega) (by omega) hL dL_law_146 ?_
  refine x_callMX (gA_sub apA) (vx_runSX (As := [.ref (a 0), .int (iN (xz xs (i + 1))), .int (iN (xz xs (i + 2)))]) (rest := []) ⟨hx, hb, hml, hown, hts⟩ hM (vx_cwSW 3 hts gL_law_L_make rfl rfl rfl hL_make_d ⟨by decide, by decide⟩) (psX hP hK hN hW ((hU.kept hS.2.1).narrow (gA_sub apA)) ((hZ.kept hS.2.1).narrow (gA_sub apA))) rfl rfl hl.1 rfl (lv_room (Nat.le_of_ble_eq_true rfl)) dL_law_147 ⟨show cells + 1 ≤ 601024 by omega, show slots + 6 ≤ 7293034 by omega⟩) hS (fun _ hR1 H1 locs1 hP1 hS1 hk1 hz1 => ?_)
  have hT1 := gw_keep hT hne hk1
  refine lv_istore (lv' := [(4, .int (iN k)), (0, .ref b), (1, .ref (a 0)), (2, .ref (d 0)), (3, .int (iN (i : Int)))]) hx hb dL_law_150 hl (by decide) rfl (fun ls hl => ?_)
  refine lv_aload_n hx hb dL_law_152 rfl (lv_at hl 3 rfl) ?_
  refine lv_aload_n hx hb dL_law_153 rfl (lv_at hl 1 rfl) ?_
  refine lv_iload_n hx hb dL_law_154 rfl (lv_at hl 4 rfl) ?_
  refine lv_iconst (v := iN 1) hx hb dL_law_155 rfl ?_
  refine x_iadd hx hb dL_law_156 ?_
  refine x_sld (A := A0 s) (j := i + 1) hx hb hX hbl hbA hS1 (by omega) (by omega) hL dL_law_157 ?_
  refine lv_aload_n hx hb dL_law_158 rfl (lv_at hl 1 rfl) ?_
  refine lv_iload_n hx hb dL_law_159 rfl (lv_at hl 4 rfl) ?_
  refine lv_iconst (v := iN 2) hx hb dL_law_160 rfl ?_
  refine x_iadd hx hb dL_law_161 ?_
  refine x_sld (A := A0 s) (j := i + 2) hx hb hX hbl hbA hS1 (by omega) (by omega) hL dL_law_162 ?_
  refine x_callMvA (gA_sub apM) (va_runV (As := [.int (iN (xz xs (i + 1))), .int (iN (xz xs (i + 2)))]) (rest := []) ⟨hx, hb, hml, hown, hts⟩ (kX7_make_0 l dC dI cI d apM.1 τ _ _ (0, τ2) f2 hR7 (xz_rng _ _) (xz_rng _ _)) (cwV 2 hts gL_law_X7_make rfl rfl rfl hX7_make_d ⟨by decide, by decide⟩) (pvM 0 (by decide) (mE_0 cI d (_)) rfl hT1 (hK.sub [0] rfl)) rfl rfl hl.1 rfl (lv_room (Nat.le_of_ble_eq_true rfl)) dL_law_163 ⟨show cells + 1 + 0 ≤ 601024 by omega, show slots + 6 + 0 ≤ 7293034 by omega⟩) hS1 (fun hR3 H2 locs2 hT2 hS2 hk2 hz2 => ?_)
  have hP2 := gw_keep hP1 (fun i j h1 h2 e9 => hne j i h2 h1 e9.symm) hk2
  refine lv_aload_n hx hb dL_law_166 rfl (lv_at hl 3 rfl) ?_
  refine x_callP (va_runV (As := []) (rest := []) ⟨hx, hb, hml, hown, hts⟩ (kX7_thrown_0 l dC dI cI d τ2 (τ2 0 0) rfl hR3) (cwV 0 hts gL_law_X7_thrown rfl rfl rfl hX7_thrown_d ⟨by decide, by decide⟩) (pvM 0 (by decide) (mE_0 cI d (_)) rfl hT2 (hK.sub [0] rfl)) rfl rfl hl.1 rfl (lv_room (Nat.le_of_ble_eq_true rfl)) dL_law_167 ⟨show cells + 1 + 0 ≤ 601024 by omega, show slots + 6 + 0 ≤ 7293034 by omega⟩) (fun r0 => ?_)
  refine lv_iload hx hb dL_law_170 (lv_at hl 0 rfl) ?_
  refine x_icmp_eq (tgt := 177) hx hb r0 rk dL_law_172 (by decide) (fun _ => ?_) (fun h => absurd e0 h)
  refine lv_goto (tgt := 806) hx hb dL_law_177 (by decide) ?_
  exact K H2 locs2 ls σ2 τ2 _ _ (Nat.le_refl _) (Nat.le_refl _) ⟨hP2, hT2, hS2, hR1, hR3, _, _, hcp2⟩ (lv_sub hl [1, 2, 3, 4] rfl)
set_option maxHeartbeats 4000000 in
set_option maxRecDepth 100000 in
theorem lw_seats (hL : L ≤ 2048) (hst : l.stackTraces = false) (C0 : lw_At p s m meth c b L xs) (hG : lwC dC dI cI cA a d s) (hiL : i + 4 ≤ L) (hI : lwI dC dI cI cA a d s H locs σ τ) (hc : cells + 1 ≤ 601024) (hs : slots + 6 ≤ 7293034) (hl : lv_has ls 5 (lwV a d b i)) (K : lwK p l e s m below meth c dC dI cI cA a d b i cells slots) : W p l e room_1 s m #[Value.ref b] below meth c H locs cells slots (lw_Z below #[Value.ref b] s) (F0 m 180 ls []) := by
  obtain ⟨hx, hb, hr, hml, hown, hts0, hX, hbl, hlocks, hgv⟩ := id C0
  have hts : ∀ w ∈ wsL_law, w.before #[Value.ref b] s = true := fun w h => hts0 w (wsL_law_in w h)
  have hbA : ¬ A0 s b := Nat.not_le.mpr hbl
  obtain ⟨apA, apM, hne, hK, hN, hW, hU, hZ⟩ := hG
  obtain ⟨hP, hT, hS, hR, hR7, n9, m9, hcp⟩ := hI
  obtain ⟨k, σ2, τ2, n2, m2, hM, f2, e0, rk, hcp2⟩ := wSeats l dC dI cI cA a apA.1 hst hcp hR (xz_rng xs (i + 1)) (xz_rng xs (i + 2))
  refine lv_aload_n hx hb dL_law_180 rfl (lv_at hl 1 rfl) ?_
  refine lv_aload_n hx hb dL_law_181 rfl (lv_at hl 0 rfl) ?_
  refine lv_iload_n hx hb dL_law_182 rfl (lv_at hl 3 rfl) ?_
  refine lv_iconst (v := iN 1) hx hb dL_law_183 rfl ?_
  refine x_iadd hx hb dL_law_184 ?_
  refine x_sld (A := A0 s) (j := i + 1) hx hb hX hbl hbA hS (by omega) (by omega) hL dL_law_185 ?_
  refine lv_aload_n hx hb dL_law_186 rfl (lv_at hl 0 rfl) ?_
  refine lv_iload_n hx hb dL_law_187 rfl (lv_at hl 3 rfl) ?_
  refine lv_iconst (v := iN 2) hx hb dL_law_188 rfl ?_
  refine x_iadd hx hb dL_law_189 ?_
  refine x_sld (A := A0 s) (j := i + 2) hx hb hX hbl hbA hS (by omega) (by omega) hL dL_law_190 ?_
  refine x_callMX (gA_sub apA) (vx_runSX (As := [.ref (a 0), .int (iN (xz xs (i + 1))), .int (iN (xz xs (i + 2)))]) (rest := []) ⟨hx, hb, hml, hown, hts⟩ hM (vx_cwSW 3 hts gL_law_L_seats rfl rfl rfl hL_seats_d ⟨by decide, by decide⟩) (psX hP hK hN hW ((hU.kept hS.2.1).narrow (gA_sub apA)) ((hZ.kept hS.2.1).narrow (gA_sub apA))) rfl rfl hl.1 rfl (lv_room (Nat.le_of_ble_eq_true rfl)) dL_law_191 ⟨show cells + 1 ≤ 601024 by omega, show slots + 6 ≤ 7293034 by omega⟩) hS (fun _ hR1 H1 locs1 hP1 hS1 hk1 hz1 => ?_)
  have hT1 := gw_keep hT hne hk1
  refine lv_istore (lv' := [(4, .int (iN k)), (0, .ref b), (1, .ref (a 0)), (2, .ref (d 0)), (3, .int (iN (i : Int)))]) hx hb dL_law_194 hl (by decide) rfl (fun ls hl => ?_)
  refine lv_aload_n hx hb dL_law_196 rfl (lv_at hl 3 rfl) ?_
  refine lv_aload_n hx hb dL_law_197 rfl (lv_at hl 1 rfl) ?_
  refine lv_iload_n hx hb dL_law_198 rfl (lv_at hl 4 rfl) ?_
  refine lv_iconst (v := iN 1) hx hb dL_law_199 rfl ?_
  refine x_iadd hx hb dL_law_200 ?_
  refine x_sld (A := A0 s) (j := i + 1) hx hb hX hbl hbA hS1 (by omega) (by omega) hL dL_law_201 ?_
  refine lv_aload_n hx hb dL_law_202 rfl (lv_at hl 1 rfl) ?_
  refine lv_iload_n hx hb dL_law_203 rfl (lv_at hl 4 rfl) ?_
  refine lv_iconst (v := iN 2) hx hb dL_law_204 rfl ?_
  refine x_iadd hx hb dL_law_205 ?_
  refine x_sld (A := A0 s) (j := i + 2) hx hb hX hbl hbA hS1 (by omega) (by omega) hL dL_law_206 ?_
  refine x_callMvA (gA_sub apM) (va_runV (As := [.int (iN (xz xs (i + 1))), .int (iN (xz xs (i + 2)))]) (rest := []) ⟨hx, hb, hml, hown, hts⟩ (kX7_seats_0 l dC dI cI d apM.1 τ _ _ (0, τ2) f2 hR7 (xz_rng _ _) (xz_rng _ _)) (cwV 2 hts gL_law_X7_seats rfl rfl rfl hX7_seats_d ⟨by decide, by decide⟩) (pvM 0 (by decide) (mE_0 cI d (_)) rfl hT1 (hK.sub [0] rfl)) rfl rfl hl.1 rfl (lv_room (Nat.le_of_ble_eq_true rfl)) dL_law_207 ⟨show cells + 1 + 0 ≤ 601024 by omega, show slots + 6 + 0 ≤ 7293034 by omega⟩) hS1 (fun hR3 H2 locs2 hT2 hS2 hk2 hz2 => ?_)
  have hP2 := gw_keep hP1 (fun i j h1 h2 e9 => hne j i h2 h1 e9.symm) hk2
  refine lv_aload_n hx hb dL_law_210 rfl (lv_at hl 3 rfl) ?_
  refine x_callP (va_runV (As := []) (rest := []) ⟨hx, hb, hml, hown, hts⟩ (kX7_thrown_0 l dC dI cI d τ2 (τ2 0 0) rfl hR3) (cwV 0 hts gL_law_X7_thrown rfl rfl rfl hX7_thrown_d ⟨by decide, by decide⟩) (pvM 0 (by decide) (mE_0 cI d (_)) rfl hT2 (hK.sub [0] rfl)) rfl rfl hl.1 rfl (lv_room (Nat.le_of_ble_eq_true rfl)) dL_law_211 ⟨show cells + 1 + 0 ≤ 601024 by omega, show slots + 6 + 0 ≤ 7293034 by omega⟩) (fun r0 => ?_)
  refine lv_iload hx hb dL_law_214 (lv_at hl 0 rfl) ?_
  refine x_icmp_eq (tgt := 221) hx hb r0 rk dL_law_216 (by decide) (fun _ => ?_) (fun h => absurd e0 h)
  refine lv_goto (tgt := 806) hx hb dL_law_221 (by decide) ?_
  exact K H2 locs2 ls σ2 τ2 _ _ (Nat.le_refl _) (Nat.le_refl _) ⟨hP2, hT2, hS2, hR1, hR3, _, _, hcp2⟩ (lv_sub hl [1, 2, 3, 4] rfl)
set_option maxHeartbeats 4000000 in
set_option maxRecDepth 100000 in
theorem lw_prefer (hL : L ≤ 2048) (hst : l.stackTraces = false) (C0 : lw_At p s m meth c b L xs) (hG : lwC dC dI cI cA a d s) (hiL : i + 4 ≤ L) (hI : lwI dC dI cI cA a d s H locs σ τ) (hc : cells + 1 ≤ 601024) (hs : slots + 6 ≤ 7293034) (hl : lv_has ls 5 (lwV a d b i)) (K : lwK p l e s m below meth c dC dI cI cA a d b i cells slots) : W p l e room_1 s m #[Value.ref b] below meth c H locs cells slots (lw_Z below #[Value.ref b] s) (F0 m 224 ls []) := by
  obtain ⟨hx, hb, hr, hml, hown, hts0, hX, hbl, hlocks, hgv⟩ := id C0
  have hts : ∀ w ∈ wsL_law, w.before #[Value.ref b] s = true := fun w h => hts0 w (wsL_law_in w h)
  have hbA : ¬ A0 s b := Nat.not_le.mpr hbl
  obtain ⟨apA, apM, hne, hK, hN, hW, hU, hZ⟩ := hG
  obtain ⟨hP, hT, hS, hR, hR7, n9, m9, hcp⟩ := hI
  obtain ⟨v, σ2, τ2, f1, f2, hcp2⟩ := tPrefer hcp (xz xs (i + 1)) (xz xs (i + 2)) (xz xs (i + 3))
  refine lv_aload_n hx hb dL_law_224 rfl (lv_at hl 1 rfl) ?_
  refine lv_aload_n hx hb dL_law_225 rfl (lv_at hl 0 rfl) ?_
  refine lv_iload_n hx hb dL_law_226 rfl (lv_at hl 3 rfl) ?_
  refine lv_iconst (v := iN 1) hx hb dL_law_227 rfl ?_
  refine x_iadd hx hb dL_law_228 ?_
  refine x_sld (A := A0 s) (j := i + 1) hx hb hX hbl hbA hS (by omega) (by omega) hL dL_law_229 ?_
  refine lv_aload_n hx hb dL_law_230 rfl (lv_at hl 0 rfl) ?_
  refine lv_iload_n hx hb dL_law_231 rfl (lv_at hl 3 rfl) ?_
  refine lv_iconst (v := iN 2) hx hb dL_law_232 rfl ?_
  refine x_iadd hx hb dL_law_233 ?_
  refine x_sld (A := A0 s) (j := i + 2) hx hb hX hbl hbA hS (by omega) (by omega) hL dL_law_234 ?_
  refine lv_aload_n hx hb dL_law_235 rfl (lv_at hl 0 rfl) ?_
  refine lv_iload_n hx hb dL_law_236 rfl (lv_at hl 3 rfl) ?_
  refine lv_iconst (v := iN 3) hx hb dL_law_237 rfl ?_
  refine x_iadd hx hb dL_law_238 ?_
  refine x_sld (A := A0 s) (j := i + 3) hx hb hX hbl hbA hS (by omega) (by omega) hL dL_law_239 ?_
  refine x_callMA (gA_sub apA) (va_runV (As := [.int (iN (xz xs (i + 1))), .int (iN (xz xs (i + 2))), .int (iN (xz xs (i + 3)))]) (rest := []) ⟨hx, hb, hml, hown, hts⟩ (kX6_prefer_0 l dC dI cI cA a apA.1 σ _ _ _ (v, σ2) f1 hR (xz_rng _ _) (xz_rng _ _) (xz_rng _ _)) (cwV 3 hts gL_law_X6_prefer rfl rfl rfl hX6_prefer_d ⟨by decide, by decide⟩) (pvC 0 (by decide) (cE_0 cI cA a (_)) rfl hP hK hN) rfl rfl hl.1 rfl (lv_room (Nat.le_of_ble_eq_true rfl)) dL_law_240 ⟨show cells + 0 ≤ 601024 by omega, show slots + 0 ≤ 7293034 by omega⟩) hS (fun rv hR1 H1 locs1 hP1 hS1 hk1 hz1 => ?_)
  have hT1 := gw_keep hT hne hk1
  refine lv_aload_n hx hb dL_law_243 rfl (lv_at hl 2 rfl) ?_
  refine lv_aload_n hx hb dL_law_244 rfl (lv_at hl 0 rfl) ?_
  refine lv_iload_n hx hb dL_law_245 rfl (lv_at hl 3 rfl) ?_
  refine lv_iconst (v := iN 1) hx hb dL_law_246 rfl ?_
  refine x_iadd hx hb dL_law_247 ?_
  refine x_sld (A := A0 s) (j := i + 1) hx hb hX hbl hbA hS1 (by omega) (by omega) hL dL_law_248 ?_
  refine lv_aload_n hx hb dL_law_249 rfl (lv_at hl 0 rfl) ?_
  refine lv_iload_n hx hb dL_law_250 rfl (lv_at hl 3 rfl) ?_
  refine lv_iconst (v := iN 2) hx hb dL_law_251 rfl ?_
  refine x_iadd hx hb dL_law_252 ?_
  refine x_sld (A := A0 s) (j := i + 2) hx hb hX hbl hbA hS1 (by omega) (by omega) hL dL_law_253 ?_
  refine lv_aload_n hx hb dL_law_254 rfl (lv_at hl 0 rfl) ?_
  refine lv_iload_n hx hb dL_law_255 rfl (lv_at hl 3 rfl) ?_
  refine lv_iconst (v := iN 3) hx hb dL_law_256 rfl ?_
  refine x_iadd hx hb dL_law_257 ?_
  refine x_sld (A := A0 s) (j := i + 3) hx hb hX hbl hbA hS1 (by omega) (by omega) hL dL_law_258 ?_
  refine x_callMA (gA_sub apM) (va_runV (As := [.int (iN (xz xs (i + 1))), .int (iN (xz xs (i + 2))), .int (iN (xz xs (i + 3)))]) (rest := [.int (iN v)]) ⟨hx, hb, hml, hown, hts⟩ (kX7_prefer_0 l dC dI cI d apM.1 τ _ _ _ (v, τ2) f2 hR7 (xz_rng _ _) (xz_rng _ _) (xz_rng _ _)) (cwV 3 hts gL_law_X7_prefer rfl rfl rfl hX7_prefer_d ⟨by decide, by decide⟩) (pvM 0 (by decide) (mE_0 cI d (_)) rfl hT1 (hK.sub [0] rfl)) rfl rfl hl.1 rfl (lv_room (Nat.le_of_ble_eq_true rfl)) dL_law_259 ⟨show cells + 0 ≤ 601024 by omega, show slots + 0 ≤ 7293034 by omega⟩) hS1 (fun _ hR3 H2 locs2 hT2 hS2 hk2 hz2 => ?_)
  have hP2 := gw_keep hP1 (fun i j h1 h2 e9 => hne j i h2 h1 e9.symm) hk2
  exact x_icmp_eq (tgt := 806) hx hb rv rv dL_law_262 (by decide) (fun _ => K H2 locs2 ls σ2 τ2 _ _ (Nat.le_add_right _ _) (Nat.le_add_right _ _) ⟨hP2, hT2, hS2, hR1, hR3, _, _, hcp2⟩ hl) (fun h => absurd rfl h)
set_option maxHeartbeats 4000000 in
set_option maxRecDepth 100000 in
theorem lw_forget (hL : L ≤ 2048) (hst : l.stackTraces = false) (C0 : lw_At p s m meth c b L xs) (hG : lwC dC dI cI cA a d s) (hiL : i + 4 ≤ L) (hI : lwI dC dI cI cA a d s H locs σ τ) (hc : cells + 1 ≤ 601024) (hs : slots + 6 ≤ 7293034) (hl : lv_has ls 5 (lwV a d b i)) (K : lwK p l e s m below meth c dC dI cI cA a d b i cells slots) : W p l e room_1 s m #[Value.ref b] below meth c H locs cells slots (lw_Z below #[Value.ref b] s) (F0 m 267 ls []) := by
  obtain ⟨hx, hb, hr, hml, hown, hts0, hX, hbl, hlocks, hgv⟩ := id C0
  have hts : ∀ w ∈ wsL_law, w.before #[Value.ref b] s = true := fun w h => hts0 w (wsL_law_in w h)
  have hbA : ¬ A0 s b := Nat.not_le.mpr hbl
  obtain ⟨apA, apM, hne, hK, hN, hW, hU, hZ⟩ := hG
  obtain ⟨hP, hT, hS, hR, hR7, n9, m9, hcp⟩ := hI
  obtain ⟨v, σ2, τ2, f1, f2, hcp2⟩ := tForget hcp (xz xs (i + 1)) (xz xs (i + 2))
  refine lv_aload_n hx hb dL_law_267 rfl (lv_at hl 1 rfl) ?_
  refine lv_aload_n hx hb dL_law_268 rfl (lv_at hl 0 rfl) ?_
  refine lv_iload_n hx hb dL_law_269 rfl (lv_at hl 3 rfl) ?_
  refine lv_iconst (v := iN 1) hx hb dL_law_270 rfl ?_
  refine x_iadd hx hb dL_law_271 ?_
  refine x_sld (A := A0 s) (j := i + 1) hx hb hX hbl hbA hS (by omega) (by omega) hL dL_law_272 ?_
  refine lv_aload_n hx hb dL_law_273 rfl (lv_at hl 0 rfl) ?_
  refine lv_iload_n hx hb dL_law_274 rfl (lv_at hl 3 rfl) ?_
  refine lv_iconst (v := iN 2) hx hb dL_law_275 rfl ?_
  refine x_iadd hx hb dL_law_276 ?_
  refine x_sld (A := A0 s) (j := i + 2) hx hb hX hbl hbA hS (by omega) (by omega) hL dL_law_277 ?_
  refine x_callMA (gA_sub apA) (va_runV (As := [.int (iN (xz xs (i + 1))), .int (iN (xz xs (i + 2)))]) (rest := []) ⟨hx, hb, hml, hown, hts⟩ (kX6_forget_0 l dC dI cI cA a apA.1 σ _ _ (v, σ2) f1 hR (xz_rng _ _) (xz_rng _ _)) (cwV 2 hts gL_law_X6_forget rfl rfl rfl hX6_forget_d ⟨by decide, by decide⟩) (pvC 0 (by decide) (cE_0 cI cA a (_)) rfl hP hK hN) rfl rfl hl.1 rfl (lv_room (Nat.le_of_ble_eq_true rfl)) dL_law_278 ⟨show cells + 0 ≤ 601024 by omega, show slots + 0 ≤ 7293034 by omega⟩) hS (fun rv hR1 H1 locs1 hP1 hS1 hk1 hz1 => ?_)
  have hT1 := gw_keep hT hne hk1
  refine lv_aload_n hx hb dL_law_281 rfl (lv_at hl 2 rfl) ?_
  refine lv_aload_n hx hb dL_law_282 rfl (lv_at hl 0 rfl) ?_
  refine lv_iload_n hx hb dL_law_283 rfl (lv_at hl 3 rfl) ?_
  refine lv_iconst (v := iN 1) hx hb dL_law_284 rfl ?_
  refine x_iadd hx hb dL_law_285 ?_
  refine x_sld (A := A0 s) (j := i + 1) hx hb hX hbl hbA hS1 (by omega) (by omega) hL dL_law_286 ?_
  refine lv_aload_n hx hb dL_law_287 rfl (lv_at hl 0 rfl) ?_
  refine lv_iload_n hx hb dL_law_288 rfl (lv_at hl 3 rfl) ?_
  refine lv_iconst (v := iN 2) hx hb dL_law_289 rfl ?_
  refine x_iadd hx hb dL_law_290 ?_
  refine x_sld (A := A0 s) (j := i + 2) hx hb hX hbl hbA hS1 (by omega) (by omega) hL dL_law_291 ?_
  refine x_callMA (gA_sub apM) (va_runV (As := [.int (iN (xz xs (i + 1))), .int (iN (xz xs (i + 2)))]) (rest := [.int (iN v)]) ⟨hx, hb, hml, hown, hts⟩ (kX7_forget_0 l dC dI cI d apM.1 τ _ _ (v, τ2) f2 hR7 (xz_rng _ _) (xz_rng _ _)) (cwV 2 hts gL_law_X7_forget rfl rfl rfl hX7_forget_d ⟨by decide, by decide⟩) (pvM 0 (by decide) (mE_0 cI d (_)) rfl hT1 (hK.sub [0] rfl)) rfl rfl hl.1 rfl (lv_room (Nat.le_of_ble_eq_true rfl)) dL_law_292 ⟨show cells + 0 ≤ 601024 by omega, show slots + 0 ≤ 7293034 by omega⟩) hS1 (fun _ hR3 H2 locs2 hT2 hS2 hk2 hz2 => ?_)
  have hP2 := gw_keep hP1 (fun i j h1 h2 e9 => hne j i h2 h1 e9.symm) hk2
  exact x_icmp_eq (tgt := 806) hx hb rv rv dL_law_295 (by decide) (fun _ => K H2 locs2 ls σ2 τ2 _ _ (Nat.le_add_right _ _) (Nat.le_add_right _ _) ⟨hP2, hT2, hS2, hR1, hR3, _, _, hcp2⟩ hl) (fun h => absurd rfl h)
set_option maxHeartbeats 4000000 in
set_option maxRecDepth 100000 in
theorem lw_listed (hL : L ≤ 2048) (hst : l.stackTraces = false) (C0 : lw_At p s m meth c b L xs) (hG : lwC dC dI cI cA a d s) (hiL : i + 4 ≤ L) (hI : lwI dC dI cI cA a d s H locs σ τ) (hc : cells + 1 ≤ 601024) (hs : slots + 6 ≤ 7293034) (hl : lv_has ls 5 (lwV a d b i)) (K : lwK p l e s m below meth c dC dI cI cA a d b i cells slots) : W p l e room_1 s m #[Value.ref b] below meth c H locs cells slots (lw_Z below #[Value.ref b] s) (F0 m 300 ls []) := by
  obtain ⟨hx, hb, hr, hml, hown, hts0, hX, hbl, hlocks, hgv⟩ := id C0
  have hts : ∀ w ∈ wsL_law, w.before #[Value.ref b] s = true := fun w h => hts0 w (wsL_law_in w h)
  have hbA : ¬ A0 s b := Nat.not_le.mpr hbl
  obtain ⟨apA, apM, hne, hK, hN, hW, hU, hZ⟩ := hG
  obtain ⟨hP, hT, hS, hR, hR7, n9, m9, hcp⟩ := hI
  obtain ⟨v, τ2, f1, f2, hcp2⟩ := tListed hcp (xz xs (i + 1)) (xz xs (i + 2)) (xz xs (i + 3))
  refine lv_aload_n hx hb dL_law_300 rfl (lv_at hl 1 rfl) ?_
  refine lv_aload_n hx hb dL_law_301 rfl (lv_at hl 0 rfl) ?_
  refine lv_iload_n hx hb dL_law_302 rfl (lv_at hl 3 rfl) ?_
  refine lv_iconst (v := iN 1) hx hb dL_law_303 rfl ?_
  refine x_iadd hx hb dL_law_304 ?_
  refine x_sld (A := A0 s) (j := i + 1) hx hb hX hbl hbA hS (by omega) (by omega) hL dL_law_305 ?_
  refine lv_aload_n hx hb dL_law_306 rfl (lv_at hl 0 rfl) ?_
  refine lv_iload_n hx hb dL_law_307 rfl (lv_at hl 3 rfl) ?_
  refine lv_iconst (v := iN 2) hx hb dL_law_308 rfl ?_
  refine x_iadd hx hb dL_law_309 ?_
  refine x_sld (A := A0 s) (j := i + 2) hx hb hX hbl hbA hS (by omega) (by omega) hL dL_law_310 ?_
  refine lv_aload_n hx hb dL_law_311 rfl (lv_at hl 0 rfl) ?_
  refine lv_iload_n hx hb dL_law_312 rfl (lv_at hl 3 rfl) ?_
  refine lv_iconst (v := iN 3) hx hb dL_law_313 rfl ?_
  refine x_iadd hx hb dL_law_314 ?_
  refine x_sld (A := A0 s) (j := i + 3) hx hb hX hbl hbA hS (by omega) (by omega) hL dL_law_315 ?_
  refine x_callP (va_runV (As := [.int (iN (xz xs (i + 1))), .int (iN (xz xs (i + 2))), .int (iN (xz xs (i + 3)))]) (rest := []) ⟨hx, hb, hml, hown, hts⟩ (kX6_listed_0 l dC dI cI cA a σ _ _ _ v f1 hR (xz_rng _ _) (xz_rng _ _) (xz_rng _ _)) (cwV 3 hts gL_law_X6_listed rfl rfl rfl hX6_listed_d ⟨by decide, by decide⟩) (pvC 0 (by decide) (cE_0 cI cA a (_)) rfl hP hK hN) rfl rfl hl.1 rfl (lv_room (Nat.le_of_ble_eq_true rfl)) dL_law_316 ⟨show cells + 0 ≤ 601024 by omega, show slots + 0 ≤ 7293034 by omega⟩) (fun rv => ?_)
  refine lv_aload_n hx hb dL_law_319 rfl (lv_at hl 2 rfl) ?_
  refine lv_aload_n hx hb dL_law_320 rfl (lv_at hl 0 rfl) ?_
  refine lv_iload_n hx hb dL_law_321 rfl (lv_at hl 3 rfl) ?_
  refine lv_iconst (v := iN 1) hx hb dL_law_322 rfl ?_
  refine x_iadd hx hb dL_law_323 ?_
  refine x_sld (A := A0 s) (j := i + 1) hx hb hX hbl hbA hS (by omega) (by omega) hL dL_law_324 ?_
  refine lv_aload_n hx hb dL_law_325 rfl (lv_at hl 0 rfl) ?_
  refine lv_iload_n hx hb dL_law_326 rfl (lv_at hl 3 rfl) ?_
  refine lv_iconst (v := iN 2) hx hb dL_law_327 rfl ?_
  refine x_iadd hx hb dL_law_328 ?_
  refine x_sld (A := A0 s) (j := i + 2) hx hb hX hbl hbA hS (by omega) (by omega) hL dL_law_329 ?_
  refine lv_aload_n hx hb dL_law_330 rfl (lv_at hl 0 rfl) ?_
  refine lv_iload_n hx hb dL_law_331 rfl (lv_at hl 3 rfl) ?_
  refine lv_iconst (v := iN 3) hx hb dL_law_332 rfl ?_
  refine x_iadd hx hb dL_law_333 ?_
  refine x_sld (A := A0 s) (j := i + 3) hx hb hX hbl hbA hS (by omega) (by omega) hL dL_law_334 ?_
  refine x_callMA (gA_sub apM) (va_runV (As := [.int (iN (xz xs (i + 1))), .int (iN (xz xs (i + 2))), .int (iN (xz xs (i + 3)))]) (rest := [.int (iN v)]) ⟨hx, hb, hml, hown, hts⟩ (kX7_listed_0 l dC dI cI d apM.1 τ _ _ _ (v, τ2) f2 hR7 (xz_rng _ _) (xz_rng _ _) (xz_rng _ _)) (cwV 3 hts gL_law_X7_listed rfl rfl rfl hX7_listed_d ⟨by decide, by decide⟩) (pvM 0 (by decide) (mE_0 cI d (_)) rfl hT (hK.sub [0] rfl)) rfl rfl hl.1 rfl (lv_room (Nat.le_of_ble_eq_true rfl)) dL_law_335 ⟨show cells + 0 ≤ 601024 by omega, show slots + 0 ≤ 7293034 by omega⟩) hS (fun _ hR3 H2 locs2 hT2 hS2 hk2 hz2 => ?_)
  have hP2 := gw_keep hP (fun i j h1 h2 e9 => hne j i h2 h1 e9.symm) hk2
  exact x_icmp_eq (tgt := 806) hx hb rv rv dL_law_338 (by decide) (fun _ => K H2 locs2 ls σ τ2 _ _ (Nat.le_add_right _ _) (Nat.le_add_right _ _) ⟨hP2, hT2, hS2, hR, hR3, _, _, hcp2⟩ hl) (fun h => absurd rfl h)
set_option maxHeartbeats 4000000 in
set_option maxRecDepth 100000 in
theorem lw_work (hL : L ≤ 2048) (hst : l.stackTraces = false) (C0 : lw_At p s m meth c b L xs) (hG : lwC dC dI cI cA a d s) (hiL : i + 4 ≤ L) (hI : lwI dC dI cI cA a d s H locs σ τ) (hc : cells + 1 ≤ 601024) (hs : slots + 6 ≤ 7293034) (hl : lv_has ls 5 (lwV a d b i)) (K : lwK p l e s m below meth c dC dI cI cA a d b i cells slots) : W p l e room_1 s m #[Value.ref b] below meth c H locs cells slots (lw_Z below #[Value.ref b] s) (F0 m 343 ls []) := by
  obtain ⟨hx, hb, hr, hml, hown, hts0, hX, hbl, hlocks, hgv⟩ := id C0
  have hts : ∀ w ∈ wsL_law, w.before #[Value.ref b] s = true := fun w h => hts0 w (wsL_law_in w h)
  have hbA : ¬ A0 s b := Nat.not_le.mpr hbl
  obtain ⟨apA, apM, hne, hK, hN, hW, hU, hZ⟩ := hG
  obtain ⟨hP, hT, hS, hR, hR7, n9, m9, hcp⟩ := hI
  obtain ⟨v, σ2, τ2, f1, f2, hcp2⟩ := tWork hcp 
  refine lv_aload_n hx hb dL_law_343 rfl (lv_at hl 1 rfl) ?_
  refine x_callMA (gA_sub apA) (va_runV (As := []) (rest := []) ⟨hx, hb, hml, hown, hts⟩ (kX6_work_0 l dC dI cI cA a apA.1 σ  (v, σ2) f1 hR ) (cwV 0 hts gL_law_X6_work rfl rfl rfl hX6_work_d ⟨by decide, by decide⟩) (pvC 0 (by decide) (cE_0 cI cA a (_)) rfl hP hK hN) rfl rfl hl.1 rfl (lv_room (Nat.le_of_ble_eq_true rfl)) dL_law_344 ⟨show cells + 0 ≤ 601024 by omega, show slots + 0 ≤ 7293034 by omega⟩) hS (fun rv hR1 H1 locs1 hP1 hS1 hk1 hz1 => ?_)
  have hT1 := gw_keep hT hne hk1
  refine lv_aload_n hx hb dL_law_347 rfl (lv_at hl 2 rfl) ?_
  refine x_callMA (gA_sub apM) (va_runV (As := []) (rest := [.int (iN v)]) ⟨hx, hb, hml, hown, hts⟩ (kX7_work_0 l dC dI cI d apM.1 τ  (v, τ2) f2 hR7 ) (cwV 0 hts gL_law_X7_work rfl rfl rfl hX7_work_d ⟨by decide, by decide⟩) (pvM 0 (by decide) (mE_0 cI d (_)) rfl hT1 (hK.sub [0] rfl)) rfl rfl hl.1 rfl (lv_room (Nat.le_of_ble_eq_true rfl)) dL_law_348 ⟨show cells + 0 ≤ 601024 by omega, show slots + 0 ≤ 7293034 by omega⟩) hS1 (fun _ hR3 H2 locs2 hT2 hS2 hk2 hz2 => ?_)
  have hP2 := gw_keep hP1 (fun i j h1 h2 e9 => hne j i h2 h1 e9.symm) hk2
  exact x_icmp_eq (tgt := 806) hx hb rv rv dL_law_351 (by decide) (fun _ => K H2 locs2 ls σ2 τ2 _ _ (Nat.le_add_right _ _) (Nat.le_add_right _ _) ⟨hP2, hT2, hS2, hR1, hR3, _, _, hcp2⟩ hl) (fun h => absurd rfl h)
set_option maxHeartbeats 4000000 in
set_option maxRecDepth 100000 in
theorem lw_count (hL : L ≤ 2048) (hst : l.stackTraces = false) (C0 : lw_At p s m meth c b L xs) (hG : lwC dC dI cI cA a d s) (hiL : i + 4 ≤ L) (hI : lwI dC dI cI cA a d s H locs σ τ) (hc : cells + 1 ≤ 601024) (hs : slots + 6 ≤ 7293034) (hl : lv_has ls 5 (lwV a d b i)) (K : lwK p l e s m below meth c dC dI cI cA a d b i cells slots) : W p l e room_1 s m #[Value.ref b] below meth c H locs cells slots (lw_Z below #[Value.ref b] s) (F0 m 356 ls []) := by
  obtain ⟨hx, hb, hr, hml, hown, hts0, hX, hbl, hlocks, hgv⟩ := id C0
  have hts : ∀ w ∈ wsL_law, w.before #[Value.ref b] s = true := fun w h => hts0 w (wsL_law_in w h)
  have hbA : ¬ A0 s b := Nat.not_le.mpr hbl
  obtain ⟨apA, apM, hne, hK, hN, hW, hU, hZ⟩ := hG
  obtain ⟨hP, hT, hS, hR, hR7, n9, m9, hcp⟩ := hI
  obtain ⟨v, τ2, f1, f2, hcp2⟩ := tCount hcp (xz xs (i + 1))
  refine lv_aload_n hx hb dL_law_356 rfl (lv_at hl 1 rfl) ?_
  refine lv_aload_n hx hb dL_law_357 rfl (lv_at hl 0 rfl) ?_
  refine lv_iload_n hx hb dL_law_358 rfl (lv_at hl 3 rfl) ?_
  refine lv_iconst (v := iN 1) hx hb dL_law_359 rfl ?_
  refine x_iadd hx hb dL_law_360 ?_
  refine x_sld (A := A0 s) (j := i + 1) hx hb hX hbl hbA hS (by omega) (by omega) hL dL_law_361 ?_
  refine x_callP (va_runV (As := [.int (iN (xz xs (i + 1)))]) (rest := []) ⟨hx, hb, hml, hown, hts⟩ (kX6_count_0 l dC dI cI cA a σ _ v f1 hR (xz_rng _ _)) (cwV 1 hts gL_law_X6_count rfl rfl rfl hX6_count_d ⟨by decide, by decide⟩) (pvC 0 (by decide) (cE_0 cI cA a (_)) rfl hP hK hN) rfl rfl hl.1 rfl (lv_room (Nat.le_of_ble_eq_true rfl)) dL_law_362 ⟨show cells + 0 ≤ 601024 by omega, show slots + 0 ≤ 7293034 by omega⟩) (fun rv => ?_)
  refine lv_aload_n hx hb dL_law_365 rfl (lv_at hl 2 rfl) ?_
  refine lv_aload_n hx hb dL_law_366 rfl (lv_at hl 0 rfl) ?_
  refine lv_iload_n hx hb dL_law_367 rfl (lv_at hl 3 rfl) ?_
  refine lv_iconst (v := iN 1) hx hb dL_law_368 rfl ?_
  refine x_iadd hx hb dL_law_369 ?_
  refine x_sld (A := A0 s) (j := i + 1) hx hb hX hbl hbA hS (by omega) (by omega) hL dL_law_370 ?_
  refine x_callMA (gA_sub apM) (va_runV (As := [.int (iN (xz xs (i + 1)))]) (rest := [.int (iN v)]) ⟨hx, hb, hml, hown, hts⟩ (kX7_count_0 l dC dI cI d apM.1 τ _ (v, τ2) f2 hR7 (xz_rng _ _)) (cwV 1 hts gL_law_X7_count rfl rfl rfl hX7_count_d ⟨by decide, by decide⟩) (pvM 0 (by decide) (mE_0 cI d (_)) rfl hT (hK.sub [0] rfl)) rfl rfl hl.1 rfl (lv_room (Nat.le_of_ble_eq_true rfl)) dL_law_371 ⟨show cells + 0 ≤ 601024 by omega, show slots + 0 ≤ 7293034 by omega⟩) hS (fun _ hR3 H2 locs2 hT2 hS2 hk2 hz2 => ?_)
  have hP2 := gw_keep hP (fun i j h1 h2 e9 => hne j i h2 h1 e9.symm) hk2
  exact x_icmp_eq (tgt := 806) hx hb rv rv dL_law_374 (by decide) (fun _ => K H2 locs2 ls σ τ2 _ _ (Nat.le_add_right _ _) (Nat.le_add_right _ _) ⟨hP2, hT2, hS2, hR, hR3, _, _, hcp2⟩ hl) (fun h => absurd rfl h)
set_option maxHeartbeats 4000000 in
set_option maxRecDepth 100000 in
theorem lw_hospital (hL : L ≤ 2048) (hst : l.stackTraces = false) (C0 : lw_At p s m meth c b L xs) (hG : lwC dC dI cI cA a d s) (hiL : i + 4 ≤ L) (hI : lwI dC dI cI cA a d s H locs σ τ) (hc : cells + 1 ≤ 601024) (hs : slots + 6 ≤ 7293034) (hl : lv_has ls 5 (lwV a d b i)) (K : lwK p l e s m below meth c dC dI cI cA a d b i cells slots) : W p l e room_1 s m #[Value.ref b] below meth c H locs cells slots (lw_Z below #[Value.ref b] s) (F0 m 379 ls []) := by
  obtain ⟨hx, hb, hr, hml, hown, hts0, hX, hbl, hlocks, hgv⟩ := id C0
  have hts : ∀ w ∈ wsL_law, w.before #[Value.ref b] s = true := fun w h => hts0 w (wsL_law_in w h)
  have hbA : ¬ A0 s b := Nat.not_le.mpr hbl
  obtain ⟨apA, apM, hne, hK, hN, hW, hU, hZ⟩ := hG
  obtain ⟨hP, hT, hS, hR, hR7, n9, m9, hcp⟩ := hI
  obtain ⟨v, τ2, f1, f2, hcp2⟩ := tHospital hcp (xz xs (i + 1)) (xz xs (i + 2))
  refine lv_aload_n hx hb dL_law_379 rfl (lv_at hl 1 rfl) ?_
  refine lv_aload_n hx hb dL_law_380 rfl (lv_at hl 0 rfl) ?_
  refine lv_iload_n hx hb dL_law_381 rfl (lv_at hl 3 rfl) ?_
  refine lv_iconst (v := iN 1) hx hb dL_law_382 rfl ?_
  refine x_iadd hx hb dL_law_383 ?_
  refine x_sld (A := A0 s) (j := i + 1) hx hb hX hbl hbA hS (by omega) (by omega) hL dL_law_384 ?_
  refine lv_aload_n hx hb dL_law_385 rfl (lv_at hl 0 rfl) ?_
  refine lv_iload_n hx hb dL_law_386 rfl (lv_at hl 3 rfl) ?_
  refine lv_iconst (v := iN 2) hx hb dL_law_387 rfl ?_
  refine x_iadd hx hb dL_law_388 ?_
  refine x_sld (A := A0 s) (j := i + 2) hx hb hX hbl hbA hS (by omega) (by omega) hL dL_law_389 ?_
  refine x_callP (va_runV (As := [.int (iN (xz xs (i + 1))), .int (iN (xz xs (i + 2)))]) (rest := []) ⟨hx, hb, hml, hown, hts⟩ (kX6_hospital_0 l dC dI cI cA a σ _ _ v f1 hR (xz_rng _ _) (xz_rng _ _)) (cwV 2 hts gL_law_X6_hospital rfl rfl rfl hX6_hospital_d ⟨by decide, by decide⟩) (pvC 0 (by decide) (cE_0 cI cA a (_)) rfl hP hK hN) rfl rfl hl.1 rfl (lv_room (Nat.le_of_ble_eq_true rfl)) dL_law_390 ⟨show cells + 0 ≤ 601024 by omega, show slots + 0 ≤ 7293034 by omega⟩) (fun rv => ?_)
  refine lv_aload_n hx hb dL_law_393 rfl (lv_at hl 2 rfl) ?_
  refine lv_aload_n hx hb dL_law_394 rfl (lv_at hl 0 rfl) ?_
  refine lv_iload_n hx hb dL_law_395 rfl (lv_at hl 3 rfl) ?_
  refine lv_iconst (v := iN 1) hx hb dL_law_396 rfl ?_
  refine x_iadd hx hb dL_law_397 ?_
  refine x_sld (A := A0 s) (j := i + 1) hx hb hX hbl hbA hS (by omega) (by omega) hL dL_law_398 ?_
  refine lv_aload_n hx hb dL_law_399 rfl (lv_at hl 0 rfl) ?_
  refine lv_iload_n hx hb dL_law_400 rfl (lv_at hl 3 rfl) ?_
  refine lv_iconst (v := iN 2) hx hb dL_law_401 rfl ?_
  refine x_iadd hx hb dL_law_402 ?_
  refine x_sld (A := A0 s) (j := i + 2) hx hb hX hbl hbA hS (by omega) (by omega) hL dL_law_403 ?_
  refine x_callMA (gA_sub apM) (va_runV (As := [.int (iN (xz xs (i + 1))), .int (iN (xz xs (i + 2)))]) (rest := [.int (iN v)]) ⟨hx, hb, hml, hown, hts⟩ (kX7_hospital_0 l dC dI cI d apM.1 τ _ _ (v, τ2) f2 hR7 (xz_rng _ _) (xz_rng _ _)) (cwV 2 hts gL_law_X7_hospital rfl rfl rfl hX7_hospital_d ⟨by decide, by decide⟩) (pvM 0 (by decide) (mE_0 cI d (_)) rfl hT (hK.sub [0] rfl)) rfl rfl hl.1 rfl (lv_room (Nat.le_of_ble_eq_true rfl)) dL_law_404 ⟨show cells + 0 ≤ 601024 by omega, show slots + 0 ≤ 7293034 by omega⟩) hS (fun _ hR3 H2 locs2 hT2 hS2 hk2 hz2 => ?_)
  have hP2 := gw_keep hP (fun i j h1 h2 e9 => hne j i h2 h1 e9.symm) hk2
  exact x_icmp_eq (tgt := 806) hx hb rv rv dL_law_407 (by decide) (fun _ => K H2 locs2 ls σ τ2 _ _ (Nat.le_add_right _ _) (Nat.le_add_right _ _) ⟨hP2, hT2, hS2, hR, hR3, _, _, hcp2⟩ hl) (fun h => absurd rfl h)
set_option maxHeartbeats 4000000 in
set_option maxRecDepth 100000 in
theorem lw_cost (hL : L ≤ 2048) (hst : l.stackTraces = false) (C0 : lw_At p s m meth c b L xs) (hG : lwC dC dI cI cA a d s) (hiL : i + 4 ≤ L) (hI : lwI dC dI cI cA a d s H locs σ τ) (hc : cells + 1 ≤ 601024) (hs : slots + 6 ≤ 7293034) (hl : lv_has ls 5 (lwV a d b i)) (K : lwK p l e s m below meth c dC dI cI cA a d b i cells slots) : W p l e room_1 s m #[Value.ref b] below meth c H locs cells slots (lw_Z below #[Value.ref b] s) (F0 m 412 ls []) := by
  obtain ⟨hx, hb, hr, hml, hown, hts0, hX, hbl, hlocks, hgv⟩ := id C0
  have hts : ∀ w ∈ wsL_law, w.before #[Value.ref b] s = true := fun w h => hts0 w (wsL_law_in w h)
  have hbA : ¬ A0 s b := Nat.not_le.mpr hbl
  obtain ⟨apA, apM, hne, hK, hN, hW, hU, hZ⟩ := hG
  obtain ⟨hP, hT, hS, hR, hR7, n9, m9, hcp⟩ := hI
  obtain ⟨v, τ2, f1, f2, hcp2⟩ := tCost hcp (xz xs (i + 1)) (xz xs (i + 2))
  refine lv_aload_n hx hb dL_law_412 rfl (lv_at hl 1 rfl) ?_
  refine lv_aload_n hx hb dL_law_413 rfl (lv_at hl 0 rfl) ?_
  refine lv_iload_n hx hb dL_law_414 rfl (lv_at hl 3 rfl) ?_
  refine lv_iconst (v := iN 1) hx hb dL_law_415 rfl ?_
  refine x_iadd hx hb dL_law_416 ?_
  refine x_sld (A := A0 s) (j := i + 1) hx hb hX hbl hbA hS (by omega) (by omega) hL dL_law_417 ?_
  refine lv_aload_n hx hb dL_law_418 rfl (lv_at hl 0 rfl) ?_
  refine lv_iload_n hx hb dL_law_419 rfl (lv_at hl 3 rfl) ?_
  refine lv_iconst (v := iN 2) hx hb dL_law_420 rfl ?_
  refine x_iadd hx hb dL_law_421 ?_
  refine x_sld (A := A0 s) (j := i + 2) hx hb hX hbl hbA hS (by omega) (by omega) hL dL_law_422 ?_
  refine x_callP (va_runV (As := [.int (iN (xz xs (i + 1))), .int (iN (xz xs (i + 2)))]) (rest := []) ⟨hx, hb, hml, hown, hts⟩ (kX6_cost_0 l dC dI cI cA a σ _ _ v f1 hR (xz_rng _ _) (xz_rng _ _)) (cwV 2 hts gL_law_X6_cost rfl rfl rfl hX6_cost_d ⟨by decide, by decide⟩) (pvC 0 (by decide) (cE_0 cI cA a (_)) rfl hP hK hN) rfl rfl hl.1 rfl (lv_room (Nat.le_of_ble_eq_true rfl)) dL_law_423 ⟨show cells + 0 ≤ 601024 by omega, show slots + 0 ≤ 7293034 by omega⟩) (fun rv => ?_)
  refine lv_aload_n hx hb dL_law_426 rfl (lv_at hl 2 rfl) ?_
  refine lv_aload_n hx hb dL_law_427 rfl (lv_at hl 0 rfl) ?_
  refine lv_iload_n hx hb dL_law_428 rfl (lv_at hl 3 rfl) ?_
  refine lv_iconst (v := iN 1) hx hb dL_law_429 rfl ?_
  refine x_iadd hx hb dL_law_430 ?_
  refine x_sld (A := A0 s) (j := i + 1) hx hb hX hbl hbA hS (by omega) (by omega) hL dL_law_431 ?_
  refine lv_aload_n hx hb dL_law_432 rfl (lv_at hl 0 rfl) ?_
  refine lv_iload_n hx hb dL_law_433 rfl (lv_at hl 3 rfl) ?_
  refine lv_iconst (v := iN 2) hx hb dL_law_434 rfl ?_
  refine x_iadd hx hb dL_law_435 ?_
  refine x_sld (A := A0 s) (j := i + 2) hx hb hX hbl hbA hS (by omega) (by omega) hL dL_law_436 ?_
  refine x_callMA (gA_sub apM) (va_runV (As := [.int (iN (xz xs (i + 1))), .int (iN (xz xs (i + 2)))]) (rest := [.int (iN v)]) ⟨hx, hb, hml, hown, hts⟩ (kX7_cost_0 l dC dI cI d apM.1 τ _ _ (v, τ2) f2 hR7 (xz_rng _ _) (xz_rng _ _)) (cwV 2 hts gL_law_X7_cost rfl rfl rfl hX7_cost_d ⟨by decide, by decide⟩) (pvM 0 (by decide) (mE_0 cI d (_)) rfl hT (hK.sub [0] rfl)) rfl rfl hl.1 rfl (lv_room (Nat.le_of_ble_eq_true rfl)) dL_law_437 ⟨show cells + 0 ≤ 601024 by omega, show slots + 0 ≤ 7293034 by omega⟩) hS (fun _ hR3 H2 locs2 hT2 hS2 hk2 hz2 => ?_)
  have hP2 := gw_keep hP (fun i j h1 h2 e9 => hne j i h2 h1 e9.symm) hk2
  exact x_icmp_eq (tgt := 806) hx hb rv rv dL_law_440 (by decide) (fun _ => K H2 locs2 ls σ τ2 _ _ (Nat.le_add_right _ _) (Nat.le_add_right _ _) ⟨hP2, hT2, hS2, hR, hR3, _, _, hcp2⟩ hl) (fun h => absurd rfl h)
set_option maxHeartbeats 4000000 in
set_option maxRecDepth 100000 in
theorem lw_cheapest (hL : L ≤ 2048) (hst : l.stackTraces = false) (C0 : lw_At p s m meth c b L xs) (hG : lwC dC dI cI cA a d s) (hiL : i + 4 ≤ L) (hI : lwI dC dI cI cA a d s H locs σ τ) (hc : cells + 1 ≤ 601024) (hs : slots + 6 ≤ 7293034) (hl : lv_has ls 5 (lwV a d b i)) (K : lwK p l e s m below meth c dC dI cI cA a d b i cells slots) : W p l e room_1 s m #[Value.ref b] below meth c H locs cells slots (lw_Z below #[Value.ref b] s) (F0 m 445 ls []) := by
  obtain ⟨hx, hb, hr, hml, hown, hts0, hX, hbl, hlocks, hgv⟩ := id C0
  have hts : ∀ w ∈ wsL_law, w.before #[Value.ref b] s = true := fun w h => hts0 w (wsL_law_in w h)
  have hbA : ¬ A0 s b := Nat.not_le.mpr hbl
  obtain ⟨apA, apM, hne, hK, hN, hW, hU, hZ⟩ := hG
  obtain ⟨hP, hT, hS, hR, hR7, n9, m9, hcp⟩ := hI
  obtain ⟨v, τ2, f1, f2, hcp2⟩ := tCheapest hcp (xz xs (i + 1))
  refine lv_aload_n hx hb dL_law_445 rfl (lv_at hl 1 rfl) ?_
  refine lv_aload_n hx hb dL_law_446 rfl (lv_at hl 0 rfl) ?_
  refine lv_iload_n hx hb dL_law_447 rfl (lv_at hl 3 rfl) ?_
  refine lv_iconst (v := iN 1) hx hb dL_law_448 rfl ?_
  refine x_iadd hx hb dL_law_449 ?_
  refine x_sld (A := A0 s) (j := i + 1) hx hb hX hbl hbA hS (by omega) (by omega) hL dL_law_450 ?_
  refine x_callP (va_runV (As := [.int (iN (xz xs (i + 1)))]) (rest := []) ⟨hx, hb, hml, hown, hts⟩ (kX6_cheapest_0 l dC dI cI cA a σ _ v f1 hR (xz_rng _ _)) (cwV 1 hts gL_law_X6_cheapest rfl rfl rfl hX6_cheapest_d ⟨by decide, by decide⟩) (pvC 0 (by decide) (cE_0 cI cA a (_)) rfl hP hK hN) rfl rfl hl.1 rfl (lv_room (Nat.le_of_ble_eq_true rfl)) dL_law_451 ⟨show cells + 0 ≤ 601024 by omega, show slots + 0 ≤ 7293034 by omega⟩) (fun rv => ?_)
  refine lv_aload_n hx hb dL_law_454 rfl (lv_at hl 2 rfl) ?_
  refine lv_aload_n hx hb dL_law_455 rfl (lv_at hl 0 rfl) ?_
  refine lv_iload_n hx hb dL_law_456 rfl (lv_at hl 3 rfl) ?_
  refine lv_iconst (v := iN 1) hx hb dL_law_457 rfl ?_
  refine x_iadd hx hb dL_law_458 ?_
  refine x_sld (A := A0 s) (j := i + 1) hx hb hX hbl hbA hS (by omega) (by omega) hL dL_law_459 ?_
  refine x_callMA (gA_sub apM) (va_runV (As := [.int (iN (xz xs (i + 1)))]) (rest := [.int (iN v)]) ⟨hx, hb, hml, hown, hts⟩ (kX7_cheapest_0 l dC dI cI d apM.1 τ _ (v, τ2) f2 hR7 (xz_rng _ _)) (cwV 1 hts gL_law_X7_cheapest rfl rfl rfl hX7_cheapest_d ⟨by decide, by decide⟩) (pvM 0 (by decide) (mE_0 cI d (_)) rfl hT (hK.sub [0] rfl)) rfl rfl hl.1 rfl (lv_room (Nat.le_of_ble_eq_true rfl)) dL_law_460 ⟨show cells + 0 ≤ 601024 by omega, show slots + 0 ≤ 7293034 by omega⟩) hS (fun _ hR3 H2 locs2 hT2 hS2 hk2 hz2 => ?_)
  have hP2 := gw_keep hP (fun i j h1 h2 e9 => hne j i h2 h1 e9.symm) hk2
  exact x_icmp_eq (tgt := 806) hx hb rv rv dL_law_463 (by decide) (fun _ => K H2 locs2 ls σ τ2 _ _ (Nat.le_add_right _ _) (Nat.le_add_right _ _) ⟨hP2, hT2, hS2, hR, hR3, _, _, hcp2⟩ hl) (fun h => absurd rfl h)
set_option maxHeartbeats 4000000 in
set_option maxRecDepth 100000 in
theorem lw_bound (hL : L ≤ 2048) (hst : l.stackTraces = false) (C0 : lw_At p s m meth c b L xs) (hG : lwC dC dI cI cA a d s) (hiL : i + 4 ≤ L) (hI : lwI dC dI cI cA a d s H locs σ τ) (hc : cells + 1 ≤ 601024) (hs : slots + 6 ≤ 7293034) (hl : lv_has ls 5 (lwV a d b i)) (K : lwK p l e s m below meth c dC dI cI cA a d b i cells slots) : W p l e room_1 s m #[Value.ref b] below meth c H locs cells slots (lw_Z below #[Value.ref b] s) (F0 m 468 ls []) := by
  obtain ⟨hx, hb, hr, hml, hown, hts0, hX, hbl, hlocks, hgv⟩ := id C0
  have hts : ∀ w ∈ wsL_law, w.before #[Value.ref b] s = true := fun w h => hts0 w (wsL_law_in w h)
  have hbA : ¬ A0 s b := Nat.not_le.mpr hbl
  obtain ⟨apA, apM, hne, hK, hN, hW, hU, hZ⟩ := hG
  obtain ⟨hP, hT, hS, hR, hR7, n9, m9, hcp⟩ := hI
  obtain ⟨v, σ2, τ2, f1, f2, hcp2⟩ := tBound hcp (xz xs (i + 1)) (xz xs (i + 2)) (xz xs (i + 3))
  refine lv_aload_n hx hb dL_law_468 rfl (lv_at hl 1 rfl) ?_
  refine lv_aload_n hx hb dL_law_469 rfl (lv_at hl 0 rfl) ?_
  refine lv_iload_n hx hb dL_law_470 rfl (lv_at hl 3 rfl) ?_
  refine lv_iconst (v := iN 1) hx hb dL_law_471 rfl ?_
  refine x_iadd hx hb dL_law_472 ?_
  refine x_sld (A := A0 s) (j := i + 1) hx hb hX hbl hbA hS (by omega) (by omega) hL dL_law_473 ?_
  refine lv_aload_n hx hb dL_law_474 rfl (lv_at hl 0 rfl) ?_
  refine lv_iload_n hx hb dL_law_475 rfl (lv_at hl 3 rfl) ?_
  refine lv_iconst (v := iN 2) hx hb dL_law_476 rfl ?_
  refine x_iadd hx hb dL_law_477 ?_
  refine x_sld (A := A0 s) (j := i + 2) hx hb hX hbl hbA hS (by omega) (by omega) hL dL_law_478 ?_
  refine lv_aload_n hx hb dL_law_479 rfl (lv_at hl 0 rfl) ?_
  refine lv_iload_n hx hb dL_law_480 rfl (lv_at hl 3 rfl) ?_
  refine lv_iconst (v := iN 3) hx hb dL_law_481 rfl ?_
  refine x_iadd hx hb dL_law_482 ?_
  refine x_sld (A := A0 s) (j := i + 3) hx hb hX hbl hbA hS (by omega) (by omega) hL dL_law_483 ?_
  refine x_callMA (gA_sub apA) (va_runV (As := [.int (iN (xz xs (i + 1))), .int (iN (xz xs (i + 2))), .int (iN (xz xs (i + 3)))]) (rest := []) ⟨hx, hb, hml, hown, hts⟩ (kX6_bound_0 l dC dI cI cA a apA.1 σ _ _ _ (v, σ2) f1 hR (xz_rng _ _) (xz_rng _ _) (xz_rng _ _)) (cwV 3 hts gL_law_X6_bound rfl rfl rfl hX6_bound_d ⟨by decide, by decide⟩) (pvC 0 (by decide) (cE_0 cI cA a (_)) rfl hP hK hN) rfl rfl hl.1 rfl (lv_room (Nat.le_of_ble_eq_true rfl)) dL_law_484 ⟨show cells + 0 ≤ 601024 by omega, show slots + 0 ≤ 7293034 by omega⟩) hS (fun rv hR1 H1 locs1 hP1 hS1 hk1 hz1 => ?_)
  have hT1 := gw_keep hT hne hk1
  refine lv_aload_n hx hb dL_law_487 rfl (lv_at hl 2 rfl) ?_
  refine lv_aload_n hx hb dL_law_488 rfl (lv_at hl 0 rfl) ?_
  refine lv_iload_n hx hb dL_law_489 rfl (lv_at hl 3 rfl) ?_
  refine lv_iconst (v := iN 1) hx hb dL_law_490 rfl ?_
  refine x_iadd hx hb dL_law_491 ?_
  refine x_sld (A := A0 s) (j := i + 1) hx hb hX hbl hbA hS1 (by omega) (by omega) hL dL_law_492 ?_
  refine lv_aload_n hx hb dL_law_493 rfl (lv_at hl 0 rfl) ?_
  refine lv_iload_n hx hb dL_law_494 rfl (lv_at hl 3 rfl) ?_
  refine lv_iconst (v := iN 2) hx hb dL_law_495 rfl ?_
  refine x_iadd hx hb dL_law_496 ?_
  refine x_sld (A := A0 s) (j := i + 2) hx hb hX hbl hbA hS1 (by omega) (by omega) hL dL_law_497 ?_
  refine lv_aload_n hx hb dL_law_498 rfl (lv_at hl 0 rfl) ?_
  refine lv_iload_n hx hb dL_law_499 rfl (lv_at hl 3 rfl) ?_
  refine lv_iconst (v := iN 3) hx hb dL_law_500 rfl ?_
  refine x_iadd hx hb dL_law_501 ?_
  refine x_sld (A := A0 s) (j := i + 3) hx hb hX hbl hbA hS1 (by omega) (by omega) hL dL_law_502 ?_
  refine x_callMA (gA_sub apM) (va_runV (As := [.int (iN (xz xs (i + 1))), .int (iN (xz xs (i + 2))), .int (iN (xz xs (i + 3)))]) (rest := [.int (iN v)]) ⟨hx, hb, hml, hown, hts⟩ (kX7_bound_0 l dC dI cI d apM.1 τ _ _ _ (v, τ2) f2 hR7 (xz_rng _ _) (xz_rng _ _) (xz_rng _ _)) (cwV 3 hts gL_law_X7_bound rfl rfl rfl hX7_bound_d ⟨by decide, by decide⟩) (pvM 0 (by decide) (mE_0 cI d (_)) rfl hT1 (hK.sub [0] rfl)) rfl rfl hl.1 rfl (lv_room (Nat.le_of_ble_eq_true rfl)) dL_law_503 ⟨show cells + 0 ≤ 601024 by omega, show slots + 0 ≤ 7293034 by omega⟩) hS1 (fun _ hR3 H2 locs2 hT2 hS2 hk2 hz2 => ?_)
  have hP2 := gw_keep hP1 (fun i j h1 h2 e9 => hne j i h2 h1 e9.symm) hk2
  exact x_icmp_eq (tgt := 806) hx hb rv rv dL_law_506 (by decide) (fun _ => K H2 locs2 ls σ2 τ2 _ _ (Nat.le_add_right _ _) (Nat.le_add_right _ _) ⟨hP2, hT2, hS2, hR1, hR3, _, _, hcp2⟩ hl) (fun h => absurd rfl h)
set_option maxHeartbeats 4000000 in
set_option maxRecDepth 100000 in
theorem lw_behind (hL : L ≤ 2048) (hst : l.stackTraces = false) (C0 : lw_At p s m meth c b L xs) (hG : lwC dC dI cI cA a d s) (hiL : i + 4 ≤ L) (hI : lwI dC dI cI cA a d s H locs σ τ) (hc : cells + 1 ≤ 601024) (hs : slots + 6 ≤ 7293034) (hl : lv_has ls 5 (lwV a d b i)) (K : lwK p l e s m below meth c dC dI cI cA a d b i cells slots) : W p l e room_1 s m #[Value.ref b] below meth c H locs cells slots (lw_Z below #[Value.ref b] s) (F0 m 511 ls []) := by
  obtain ⟨hx, hb, hr, hml, hown, hts0, hX, hbl, hlocks, hgv⟩ := id C0
  have hts : ∀ w ∈ wsL_law, w.before #[Value.ref b] s = true := fun w h => hts0 w (wsL_law_in w h)
  have hbA : ¬ A0 s b := Nat.not_le.mpr hbl
  obtain ⟨apA, apM, hne, hK, hN, hW, hU, hZ⟩ := hG
  obtain ⟨hP, hT, hS, hR, hR7, n9, m9, hcp⟩ := hI
  obtain ⟨v, τ2, f1, f2, hcp2⟩ := tBehind hcp (xz xs (i + 1)) (xz xs (i + 2))
  refine lv_aload_n hx hb dL_law_511 rfl (lv_at hl 1 rfl) ?_
  refine lv_aload_n hx hb dL_law_512 rfl (lv_at hl 0 rfl) ?_
  refine lv_iload_n hx hb dL_law_513 rfl (lv_at hl 3 rfl) ?_
  refine lv_iconst (v := iN 1) hx hb dL_law_514 rfl ?_
  refine x_iadd hx hb dL_law_515 ?_
  refine x_sld (A := A0 s) (j := i + 1) hx hb hX hbl hbA hS (by omega) (by omega) hL dL_law_516 ?_
  refine lv_aload_n hx hb dL_law_517 rfl (lv_at hl 0 rfl) ?_
  refine lv_iload_n hx hb dL_law_518 rfl (lv_at hl 3 rfl) ?_
  refine lv_iconst (v := iN 2) hx hb dL_law_519 rfl ?_
  refine x_iadd hx hb dL_law_520 ?_
  refine x_sld (A := A0 s) (j := i + 2) hx hb hX hbl hbA hS (by omega) (by omega) hL dL_law_521 ?_
  refine x_callP (va_runV (As := [.int (iN (xz xs (i + 1))), .int (iN (xz xs (i + 2)))]) (rest := []) ⟨hx, hb, hml, hown, hts⟩ (kX6_behind_0 l dC dI cI cA a σ _ _ v f1 hR (xz_rng _ _) (xz_rng _ _)) (cwV 2 hts gL_law_X6_behind rfl rfl rfl hX6_behind_d ⟨by decide, by decide⟩) (pvC 0 (by decide) (cE_0 cI cA a (_)) rfl hP hK hN) rfl rfl hl.1 rfl (lv_room (Nat.le_of_ble_eq_true rfl)) dL_law_522 ⟨show cells + 0 ≤ 601024 by omega, show slots + 0 ≤ 7293034 by omega⟩) (fun rv => ?_)
  refine lv_aload_n hx hb dL_law_525 rfl (lv_at hl 2 rfl) ?_
  refine lv_aload_n hx hb dL_law_526 rfl (lv_at hl 0 rfl) ?_
  refine lv_iload_n hx hb dL_law_527 rfl (lv_at hl 3 rfl) ?_
  refine lv_iconst (v := iN 1) hx hb dL_law_528 rfl ?_
  refine x_iadd hx hb dL_law_529 ?_
  refine x_sld (A := A0 s) (j := i + 1) hx hb hX hbl hbA hS (by omega) (by omega) hL dL_law_530 ?_
  refine lv_aload_n hx hb dL_law_531 rfl (lv_at hl 0 rfl) ?_
  refine lv_iload_n hx hb dL_law_532 rfl (lv_at hl 3 rfl) ?_
  refine lv_iconst (v := iN 2) hx hb dL_law_533 rfl ?_
  refine x_iadd hx hb dL_law_534 ?_
  refine x_sld (A := A0 s) (j := i + 2) hx hb hX hbl hbA hS (by omega) (by omega) hL dL_law_535 ?_
  refine x_callMA (gA_sub apM) (va_runV (As := [.int (iN (xz xs (i + 1))), .int (iN (xz xs (i + 2)))]) (rest := [.int (iN v)]) ⟨hx, hb, hml, hown, hts⟩ (kX7_behind_0 l dC dI cI d apM.1 τ _ _ (v, τ2) f2 hR7 (xz_rng _ _) (xz_rng _ _)) (cwV 2 hts gL_law_X7_behind rfl rfl rfl hX7_behind_d ⟨by decide, by decide⟩) (pvM 0 (by decide) (mE_0 cI d (_)) rfl hT (hK.sub [0] rfl)) rfl rfl hl.1 rfl (lv_room (Nat.le_of_ble_eq_true rfl)) dL_law_536 ⟨show cells + 0 ≤ 601024 by omega, show slots + 0 ≤ 7293034 by omega⟩) hS (fun _ hR3 H2 locs2 hT2 hS2 hk2 hz2 => ?_)
  have hP2 := gw_keep hP (fun i j h1 h2 e9 => hne j i h2 h1 e9.symm) hk2
  exact x_icmp_eq (tgt := 806) hx hb rv rv dL_law_539 (by decide) (fun _ => K H2 locs2 ls σ τ2 _ _ (Nat.le_add_right _ _) (Nat.le_add_right _ _) ⟨hP2, hT2, hS2, hR, hR3, _, _, hcp2⟩ hl) (fun h => absurd rfl h)
set_option maxHeartbeats 4000000 in
set_option maxRecDepth 100000 in
theorem lw_rotation (hL : L ≤ 2048) (hst : l.stackTraces = false) (C0 : lw_At p s m meth c b L xs) (hG : lwC dC dI cI cA a d s) (hiL : i + 4 ≤ L) (hI : lwI dC dI cI cA a d s H locs σ τ) (hc : cells + 1 ≤ 601024) (hs : slots + 6 ≤ 7293034) (hl : lv_has ls 5 (lwV a d b i)) (K : lwK p l e s m below meth c dC dI cI cA a d b i cells slots) : W p l e room_1 s m #[Value.ref b] below meth c H locs cells slots (lw_Z below #[Value.ref b] s) (F0 m 544 ls []) := by
  obtain ⟨hx, hb, hr, hml, hown, hts0, hX, hbl, hlocks, hgv⟩ := id C0
  have hts : ∀ w ∈ wsL_law, w.before #[Value.ref b] s = true := fun w h => hts0 w (wsL_law_in w h)
  have hbA : ¬ A0 s b := Nat.not_le.mpr hbl
  obtain ⟨apA, apM, hne, hK, hN, hW, hU, hZ⟩ := hG
  obtain ⟨hP, hT, hS, hR, hR7, n9, m9, hcp⟩ := hI
  obtain ⟨v, τ2, f1, f2, hcp2⟩ := tRotation hcp (xz xs (i + 1)) (xz xs (i + 2)) (xz xs (i + 3))
  refine lv_aload_n hx hb dL_law_544 rfl (lv_at hl 1 rfl) ?_
  refine lv_aload_n hx hb dL_law_545 rfl (lv_at hl 0 rfl) ?_
  refine lv_iload_n hx hb dL_law_546 rfl (lv_at hl 3 rfl) ?_
  refine lv_iconst (v := iN 1) hx hb dL_law_547 rfl ?_
  refine x_iadd hx hb dL_law_548 ?_
  refine x_sld (A := A0 s) (j := i + 1) hx hb hX hbl hbA hS (by omega) (by omega) hL dL_law_549 ?_
  refine lv_aload_n hx hb dL_law_550 rfl (lv_at hl 0 rfl) ?_
  refine lv_iload_n hx hb dL_law_551 rfl (lv_at hl 3 rfl) ?_
  refine lv_iconst (v := iN 2) hx hb dL_law_552 rfl ?_
  refine x_iadd hx hb dL_law_553 ?_
  refine x_sld (A := A0 s) (j := i + 2) hx hb hX hbl hbA hS (by omega) (by omega) hL dL_law_554 ?_
  refine lv_aload_n hx hb dL_law_555 rfl (lv_at hl 0 rfl) ?_
  refine lv_iload_n hx hb dL_law_556 rfl (lv_at hl 3 rfl) ?_
  refine lv_iconst (v := iN 3) hx hb dL_law_557 rfl ?_
  refine x_iadd hx hb dL_law_558 ?_
  refine x_sld (A := A0 s) (j := i + 3) hx hb hX hbl hbA hS (by omega) (by omega) hL dL_law_559 ?_
  refine x_callP (va_runV (As := [.int (iN (xz xs (i + 1))), .int (iN (xz xs (i + 2))), .int (iN (xz xs (i + 3)))]) (rest := []) ⟨hx, hb, hml, hown, hts⟩ (kX6_rotation_0 l dC dI cI cA a σ _ _ _ v f1 hR (xz_rng _ _) (xz_rng _ _) (xz_rng _ _)) (cwV 3 hts gL_law_X6_rotation rfl rfl rfl hX6_rotation_d ⟨by decide, by decide⟩) (pvC 0 (by decide) (cE_0 cI cA a (_)) rfl hP hK hN) rfl rfl hl.1 rfl (lv_room (Nat.le_of_ble_eq_true rfl)) dL_law_560 ⟨show cells + 0 ≤ 601024 by omega, show slots + 0 ≤ 7293034 by omega⟩) (fun rv => ?_)
  refine lv_aload_n hx hb dL_law_563 rfl (lv_at hl 2 rfl) ?_
  refine lv_aload_n hx hb dL_law_564 rfl (lv_at hl 0 rfl) ?_
  refine lv_iload_n hx hb dL_law_565 rfl (lv_at hl 3 rfl) ?_
  refine lv_iconst (v := iN 1) hx hb dL_law_566 rfl ?_
  refine x_iadd hx hb dL_law_567 ?_
  refine x_sld (A := A0 s) (j := i + 1) hx hb hX hbl hbA hS (by omega) (by omega) hL dL_law_568 ?_
  refine lv_aload_n hx hb dL_law_569 rfl (lv_at hl 0 rfl) ?_
  refine lv_iload_n hx hb dL_law_570 rfl (lv_at hl 3 rfl) ?_
  refine lv_iconst (v := iN 2) hx hb dL_law_571 rfl ?_
  refine x_iadd hx hb dL_law_572 ?_
  refine x_sld (A := A0 s) (j := i + 2) hx hb hX hbl hbA hS (by omega) (by omega) hL dL_law_573 ?_
  refine lv_aload_n hx hb dL_law_574 rfl (lv_at hl 0 rfl) ?_
  refine lv_iload_n hx hb dL_law_575 rfl (lv_at hl 3 rfl) ?_
  refine lv_iconst (v := iN 3) hx hb dL_law_576 rfl ?_
  refine x_iadd hx hb dL_law_577 ?_
  refine x_sld (A := A0 s) (j := i + 3) hx hb hX hbl hbA hS (by omega) (by omega) hL dL_law_578 ?_
  refine x_callMA (gA_sub apM) (va_runV (As := [.int (iN (xz xs (i + 1))), .int (iN (xz xs (i + 2))), .int (iN (xz xs (i + 3)))]) (rest := [.int (iN v)]) ⟨hx, hb, hml, hown, hts⟩ (kX7_rotation_0 l dC dI cI d apM.1 τ _ _ _ (v, τ2) f2 hR7 (xz_rng _ _) (xz_rng _ _) (xz_rng _ _)) (cwV 3 hts gL_law_X7_rotation rfl rfl rfl hX7_rotation_d ⟨by decide, by decide⟩) (pvM 0 (by decide) (mE_0 cI d (_)) rfl hT (hK.sub [0] rfl)) rfl rfl hl.1 rfl (lv_room (Nat.le_of_ble_eq_true rfl)) dL_law_579 ⟨show cells + 0 ≤ 601024 by omega, show slots + 0 ≤ 7293034 by omega⟩) hS (fun _ hR3 H2 locs2 hT2 hS2 hk2 hz2 => ?_)
  have hP2 := gw_keep hP (fun i j h1 h2 e9 => hne j i h2 h1 e9.symm) hk2
  exact x_icmp_eq (tgt := 806) hx hb rv rv dL_law_582 (by decide) (fun _ => K H2 locs2 ls σ τ2 _ _ (Nat.le_add_right _ _) (Nat.le_add_right _ _) ⟨hP2, hT2, hS2, hR, hR3, _, _, hcp2⟩ hl) (fun h => absurd rfl h)
set_option maxHeartbeats 4000000 in
set_option maxRecDepth 100000 in
theorem lw_done (hL : L ≤ 2048) (hst : l.stackTraces = false) (C0 : lw_At p s m meth c b L xs) (hG : lwC dC dI cI cA a d s) (hiL : i + 4 ≤ L) (hI : lwI dC dI cI cA a d s H locs σ τ) (hc : cells + 1 ≤ 601024) (hs : slots + 6 ≤ 7293034) (hl : lv_has ls 5 (lwV a d b i)) (K : lwK p l e s m below meth c dC dI cI cA a d b i cells slots) : W p l e room_1 s m #[Value.ref b] below meth c H locs cells slots (lw_Z below #[Value.ref b] s) (F0 m 587 ls []) := by
  obtain ⟨hx, hb, hr, hml, hown, hts0, hX, hbl, hlocks, hgv⟩ := id C0
  have hts : ∀ w ∈ wsL_law, w.before #[Value.ref b] s = true := fun w h => hts0 w (wsL_law_in w h)
  have hbA : ¬ A0 s b := Nat.not_le.mpr hbl
  obtain ⟨apA, apM, hne, hK, hN, hW, hU, hZ⟩ := hG
  obtain ⟨hP, hT, hS, hR, hR7, n9, m9, hcp⟩ := hI
  obtain ⟨v, τ2, f1, f2, hcp2⟩ := tDone hcp (xz xs (i + 1)) (xz xs (i + 2))
  refine lv_aload_n hx hb dL_law_587 rfl (lv_at hl 1 rfl) ?_
  refine lv_aload_n hx hb dL_law_588 rfl (lv_at hl 0 rfl) ?_
  refine lv_iload_n hx hb dL_law_589 rfl (lv_at hl 3 rfl) ?_
  refine lv_iconst (v := iN 1) hx hb dL_law_590 rfl ?_
  refine x_iadd hx hb dL_law_591 ?_
  refine x_sld (A := A0 s) (j := i + 1) hx hb hX hbl hbA hS (by omega) (by omega) hL dL_law_592 ?_
  refine lv_aload_n hx hb dL_law_593 rfl (lv_at hl 0 rfl) ?_
  refine lv_iload_n hx hb dL_law_594 rfl (lv_at hl 3 rfl) ?_
  refine lv_iconst (v := iN 2) hx hb dL_law_595 rfl ?_
  refine x_iadd hx hb dL_law_596 ?_
  refine x_sld (A := A0 s) (j := i + 2) hx hb hX hbl hbA hS (by omega) (by omega) hL dL_law_597 ?_
  refine x_callP (va_runV (As := [.int (iN (xz xs (i + 1))), .int (iN (xz xs (i + 2)))]) (rest := []) ⟨hx, hb, hml, hown, hts⟩ (kX6_done_0 l dC dI cI cA a σ _ _ v f1 hR (xz_rng _ _) (xz_rng _ _)) (cwV 2 hts gL_law_X6_done rfl rfl rfl hX6_done_d ⟨by decide, by decide⟩) (pvC 0 (by decide) (cE_0 cI cA a (_)) rfl hP hK hN) rfl rfl hl.1 rfl (lv_room (Nat.le_of_ble_eq_true rfl)) dL_law_598 ⟨show cells + 0 ≤ 601024 by omega, show slots + 0 ≤ 7293034 by omega⟩) (fun rv => ?_)
  refine lv_aload_n hx hb dL_law_601 rfl (lv_at hl 2 rfl) ?_
  refine lv_aload_n hx hb dL_law_602 rfl (lv_at hl 0 rfl) ?_
  refine lv_iload_n hx hb dL_law_603 rfl (lv_at hl 3 rfl) ?_
  refine lv_iconst (v := iN 1) hx hb dL_law_604 rfl ?_
  refine x_iadd hx hb dL_law_605 ?_
  refine x_sld (A := A0 s) (j := i + 1) hx hb hX hbl hbA hS (by omega) (by omega) hL dL_law_606 ?_
  refine lv_aload_n hx hb dL_law_607 rfl (lv_at hl 0 rfl) ?_
  refine lv_iload_n hx hb dL_law_608 rfl (lv_at hl 3 rfl) ?_
  refine lv_iconst (v := iN 2) hx hb dL_law_609 rfl ?_
  refine x_iadd hx hb dL_law_610 ?_
  refine x_sld (A := A0 s) (j := i + 2) hx hb hX hbl hbA hS (by omega) (by omega) hL dL_law_611 ?_
  refine x_callMA (gA_sub apM) (va_runV (As := [.int (iN (xz xs (i + 1))), .int (iN (xz xs (i + 2)))]) (rest := [.int (iN v)]) ⟨hx, hb, hml, hown, hts⟩ (kX7_done_0 l dC dI cI d apM.1 τ _ _ (v, τ2) f2 hR7 (xz_rng _ _) (xz_rng _ _)) (cwV 2 hts gL_law_X7_done rfl rfl rfl hX7_done_d ⟨by decide, by decide⟩) (pvM 0 (by decide) (mE_0 cI d (_)) rfl hT (hK.sub [0] rfl)) rfl rfl hl.1 rfl (lv_room (Nat.le_of_ble_eq_true rfl)) dL_law_612 ⟨show cells + 0 ≤ 601024 by omega, show slots + 0 ≤ 7293034 by omega⟩) hS (fun _ hR3 H2 locs2 hT2 hS2 hk2 hz2 => ?_)
  have hP2 := gw_keep hP (fun i j h1 h2 e9 => hne j i h2 h1 e9.symm) hk2
  exact x_icmp_eq (tgt := 806) hx hb rv rv dL_law_615 (by decide) (fun _ => K H2 locs2 ls σ τ2 _ _ (Nat.le_add_right _ _) (Nat.le_add_right _ _) ⟨hP2, hT2, hS2, hR, hR3, _, _, hcp2⟩ hl) (fun h => absurd rfl h)
set_option maxHeartbeats 4000000 in
set_option maxRecDepth 100000 in
theorem lw_before (hL : L ≤ 2048) (hst : l.stackTraces = false) (C0 : lw_At p s m meth c b L xs) (hG : lwC dC dI cI cA a d s) (hiL : i + 4 ≤ L) (hI : lwI dC dI cI cA a d s H locs σ τ) (hc : cells + 1 ≤ 601024) (hs : slots + 6 ≤ 7293034) (hl : lv_has ls 5 (lwV a d b i)) (K : lwK p l e s m below meth c dC dI cI cA a d b i cells slots) : W p l e room_1 s m #[Value.ref b] below meth c H locs cells slots (lw_Z below #[Value.ref b] s) (F0 m 620 ls []) := by
  obtain ⟨hx, hb, hr, hml, hown, hts0, hX, hbl, hlocks, hgv⟩ := id C0
  have hts : ∀ w ∈ wsL_law, w.before #[Value.ref b] s = true := fun w h => hts0 w (wsL_law_in w h)
  have hbA : ¬ A0 s b := Nat.not_le.mpr hbl
  obtain ⟨apA, apM, hne, hK, hN, hW, hU, hZ⟩ := hG
  obtain ⟨hP, hT, hS, hR, hR7, n9, m9, hcp⟩ := hI
  obtain ⟨v, τ2, f1, f2, hcp2⟩ := tBefore hcp (xz xs (i + 1)) (xz xs (i + 2))
  refine lv_aload_n hx hb dL_law_620 rfl (lv_at hl 1 rfl) ?_
  refine lv_aload_n hx hb dL_law_621 rfl (lv_at hl 0 rfl) ?_
  refine lv_iload_n hx hb dL_law_622 rfl (lv_at hl 3 rfl) ?_
  refine lv_iconst (v := iN 1) hx hb dL_law_623 rfl ?_
  refine x_iadd hx hb dL_law_624 ?_
  refine x_sld (A := A0 s) (j := i + 1) hx hb hX hbl hbA hS (by omega) (by omega) hL dL_law_625 ?_
  refine lv_aload_n hx hb dL_law_626 rfl (lv_at hl 0 rfl) ?_
  refine lv_iload_n hx hb dL_law_627 rfl (lv_at hl 3 rfl) ?_
  refine lv_iconst (v := iN 2) hx hb dL_law_628 rfl ?_
  refine x_iadd hx hb dL_law_629 ?_
  refine x_sld (A := A0 s) (j := i + 2) hx hb hX hbl hbA hS (by omega) (by omega) hL dL_law_630 ?_
  refine x_callP (va_runV (As := [.int (iN (xz xs (i + 1))), .int (iN (xz xs (i + 2)))]) (rest := []) ⟨hx, hb, hml, hown, hts⟩ (kX6_before_0 l dC dI cI cA a σ _ _ v f1 hR (xz_rng _ _) (xz_rng _ _)) (cwV 2 hts gL_law_X6_before rfl rfl rfl hX6_before_d ⟨by decide, by decide⟩) (pvC 0 (by decide) (cE_0 cI cA a (_)) rfl hP hK hN) rfl rfl hl.1 rfl (lv_room (Nat.le_of_ble_eq_true rfl)) dL_law_631 ⟨show cells + 0 ≤ 601024 by omega, show slots + 0 ≤ 7293034 by omega⟩) (fun rv => ?_)
  refine lv_aload_n hx hb dL_law_634 rfl (lv_at hl 2 rfl) ?_
  refine lv_aload_n hx hb dL_law_635 rfl (lv_at hl 0 rfl) ?_
  refine lv_iload_n hx hb dL_law_636 rfl (lv_at hl 3 rfl) ?_
  refine lv_iconst (v := iN 1) hx hb dL_law_637 rfl ?_
  refine x_iadd hx hb dL_law_638 ?_
  refine x_sld (A := A0 s) (j := i + 1) hx hb hX hbl hbA hS (by omega) (by omega) hL dL_law_639 ?_
  refine lv_aload_n hx hb dL_law_640 rfl (lv_at hl 0 rfl) ?_
  refine lv_iload_n hx hb dL_law_641 rfl (lv_at hl 3 rfl) ?_
  refine lv_iconst (v := iN 2) hx hb dL_law_642 rfl ?_
  refine x_iadd hx hb dL_law_643 ?_
  refine x_sld (A := A0 s) (j := i + 2) hx hb hX hbl hbA hS (by omega) (by omega) hL dL_law_644 ?_
  refine x_callMA (gA_sub apM) (va_runV (As := [.int (iN (xz xs (i + 1))), .int (iN (xz xs (i + 2)))]) (rest := [.int (iN v)]) ⟨hx, hb, hml, hown, hts⟩ (kX7_before_0 l dC dI cI d apM.1 τ _ _ (v, τ2) f2 hR7 (xz_rng _ _) (xz_rng _ _)) (cwV 2 hts gL_law_X7_before rfl rfl rfl hX7_before_d ⟨by decide, by decide⟩) (pvM 0 (by decide) (mE_0 cI d (_)) rfl hT (hK.sub [0] rfl)) rfl rfl hl.1 rfl (lv_room (Nat.le_of_ble_eq_true rfl)) dL_law_645 ⟨show cells + 0 ≤ 601024 by omega, show slots + 0 ≤ 7293034 by omega⟩) hS (fun _ hR3 H2 locs2 hT2 hS2 hk2 hz2 => ?_)
  have hP2 := gw_keep hP (fun i j h1 h2 e9 => hne j i h2 h1 e9.symm) hk2
  exact x_icmp_eq (tgt := 806) hx hb rv rv dL_law_648 (by decide) (fun _ => K H2 locs2 ls σ τ2 _ _ (Nat.le_add_right _ _) (Nat.le_add_right _ _) ⟨hP2, hT2, hS2, hR, hR3, _, _, hcp2⟩ hl) (fun h => absurd rfl h)
set_option maxHeartbeats 4000000 in
set_option maxRecDepth 100000 in
theorem lw_tell (hL : L ≤ 2048) (hst : l.stackTraces = false) (C0 : lw_At p s m meth c b L xs) (hG : lwC dC dI cI cA a d s) (hiL : i + 4 ≤ L) (hI : lwI dC dI cI cA a d s H locs σ τ) (hc : cells + 1 ≤ 601024) (hs : slots + 6 ≤ 7293034) (hl : lv_has ls 5 (lwV a d b i)) (K : lwK p l e s m below meth c dC dI cI cA a d b i cells slots) : W p l e room_1 s m #[Value.ref b] below meth c H locs cells slots (lw_Z below #[Value.ref b] s) (F0 m 653 ls []) := by
  obtain ⟨hx, hb, hr, hml, hown, hts0, hX, hbl, hlocks, hgv⟩ := id C0
  have hts : ∀ w ∈ wsL_law, w.before #[Value.ref b] s = true := fun w h => hts0 w (wsL_law_in w h)
  have hbA : ¬ A0 s b := Nat.not_le.mpr hbl
  obtain ⟨apA, apM, hne, hK, hN, hW, hU, hZ⟩ := hG
  obtain ⟨hP, hT, hS, hR, hR7, n9, m9, hcp⟩ := hI
  obtain ⟨k, σ2, τ2, n2, m2, hM, f2, e0, rk, hcp2⟩ := wTell l dC dI cI cA a apA.1 hst hcp hR (xz_rng xs (i + 1)) (xz_rng xs (i + 2))
  refine lv_aload_n hx hb dL_law_653 rfl (lv_at hl 1 rfl) ?_
  refine lv_aload_n hx hb dL_law_654 rfl (lv_at hl 0 rfl) ?_
  refine lv_iload_n hx hb dL_law_655 rfl (lv_at hl 3 rfl) ?_
  refine lv_iconst (v := iN 1) hx hb dL_law_656 rfl ?_
  refine x_iadd hx hb dL_law_657 ?_
  refine x_sld (A := A0 s) (j := i + 1) hx hb hX hbl hbA hS (by omega) (by omega) hL dL_law_658 ?_
  refine lv_aload_n hx hb dL_law_659 rfl (lv_at hl 0 rfl) ?_
  refine lv_iload_n hx hb dL_law_660 rfl (lv_at hl 3 rfl) ?_
  refine lv_iconst (v := iN 2) hx hb dL_law_661 rfl ?_
  refine x_iadd hx hb dL_law_662 ?_
  refine x_sld (A := A0 s) (j := i + 2) hx hb hX hbl hbA hS (by omega) (by omega) hL dL_law_663 ?_
  refine x_callMX (gA_sub apA) (vx_runSX (As := [.ref (a 0), .int (iN (xz xs (i + 1))), .int (iN (xz xs (i + 2)))]) (rest := []) ⟨hx, hb, hml, hown, hts⟩ hM (vx_cwSW 3 hts gL_law_L_tell rfl rfl rfl hL_tell_d ⟨by decide, by decide⟩) (psX hP hK hN hW ((hU.kept hS.2.1).narrow (gA_sub apA)) ((hZ.kept hS.2.1).narrow (gA_sub apA))) rfl rfl hl.1 rfl (lv_room (Nat.le_of_ble_eq_true rfl)) dL_law_664 ⟨show cells + 1 ≤ 601024 by omega, show slots + 6 ≤ 7293034 by omega⟩) hS (fun _ hR1 H1 locs1 hP1 hS1 hk1 hz1 => ?_)
  have hT1 := gw_keep hT hne hk1
  refine lv_istore (lv' := [(4, .int (iN k)), (0, .ref b), (1, .ref (a 0)), (2, .ref (d 0)), (3, .int (iN (i : Int)))]) hx hb dL_law_667 hl (by decide) rfl (fun ls hl => ?_)
  refine lv_aload_n hx hb dL_law_669 rfl (lv_at hl 3 rfl) ?_
  refine lv_aload_n hx hb dL_law_670 rfl (lv_at hl 1 rfl) ?_
  refine lv_iload_n hx hb dL_law_671 rfl (lv_at hl 4 rfl) ?_
  refine lv_iconst (v := iN 1) hx hb dL_law_672 rfl ?_
  refine x_iadd hx hb dL_law_673 ?_
  refine x_sld (A := A0 s) (j := i + 1) hx hb hX hbl hbA hS1 (by omega) (by omega) hL dL_law_674 ?_
  refine lv_aload_n hx hb dL_law_675 rfl (lv_at hl 1 rfl) ?_
  refine lv_iload_n hx hb dL_law_676 rfl (lv_at hl 4 rfl) ?_
  refine lv_iconst (v := iN 2) hx hb dL_law_677 rfl ?_
  refine x_iadd hx hb dL_law_678 ?_
  refine x_sld (A := A0 s) (j := i + 2) hx hb hX hbl hbA hS1 (by omega) (by omega) hL dL_law_679 ?_
  refine x_callMvA (gA_sub apM) (va_runV (As := [.int (iN (xz xs (i + 1))), .int (iN (xz xs (i + 2)))]) (rest := []) ⟨hx, hb, hml, hown, hts⟩ (kX7_tell_0 l dC dI cI d apM.1 τ _ _ (0, τ2) f2 hR7 (xz_rng _ _) (xz_rng _ _)) (cwV 2 hts gL_law_X7_tell rfl rfl rfl hX7_tell_d ⟨by decide, by decide⟩) (pvM 0 (by decide) (mE_0 cI d (_)) rfl hT1 (hK.sub [0] rfl)) rfl rfl hl.1 rfl (lv_room (Nat.le_of_ble_eq_true rfl)) dL_law_680 ⟨show cells + 1 + 0 ≤ 601024 by omega, show slots + 6 + 0 ≤ 7293034 by omega⟩) hS1 (fun hR3 H2 locs2 hT2 hS2 hk2 hz2 => ?_)
  have hP2 := gw_keep hP1 (fun i j h1 h2 e9 => hne j i h2 h1 e9.symm) hk2
  refine lv_aload_n hx hb dL_law_683 rfl (lv_at hl 3 rfl) ?_
  refine x_callP (va_runV (As := []) (rest := []) ⟨hx, hb, hml, hown, hts⟩ (kX7_thrown_0 l dC dI cI d τ2 (τ2 0 0) rfl hR3) (cwV 0 hts gL_law_X7_thrown rfl rfl rfl hX7_thrown_d ⟨by decide, by decide⟩) (pvM 0 (by decide) (mE_0 cI d (_)) rfl hT2 (hK.sub [0] rfl)) rfl rfl hl.1 rfl (lv_room (Nat.le_of_ble_eq_true rfl)) dL_law_684 ⟨show cells + 1 + 0 ≤ 601024 by omega, show slots + 6 + 0 ≤ 7293034 by omega⟩) (fun r0 => ?_)
  refine lv_iload hx hb dL_law_687 (lv_at hl 0 rfl) ?_
  refine x_icmp_eq (tgt := 694) hx hb r0 rk dL_law_689 (by decide) (fun _ => ?_) (fun h => absurd e0 h)
  refine lv_goto (tgt := 806) hx hb dL_law_694 (by decide) ?_
  exact K H2 locs2 ls σ2 τ2 _ _ (Nat.le_refl _) (Nat.le_refl _) ⟨hP2, hT2, hS2, hR1, hR3, _, _, hcp2⟩ (lv_sub hl [1, 2, 3, 4] rfl)
set_option maxHeartbeats 4000000 in
set_option maxRecDepth 100000 in
theorem lw_take (hL : L ≤ 2048) (hst : l.stackTraces = false) (C0 : lw_At p s m meth c b L xs) (hG : lwC dC dI cI cA a d s) (hiL : i + 4 ≤ L) (hI : lwI dC dI cI cA a d s H locs σ τ) (hc : cells + 1 ≤ 601024) (hs : slots + 6 ≤ 7293034) (hl : lv_has ls 5 (lwV a d b i)) (K : lwK p l e s m below meth c dC dI cI cA a d b i cells slots) : W p l e room_1 s m #[Value.ref b] below meth c H locs cells slots (lw_Z below #[Value.ref b] s) (F0 m 697 ls []) := by
  obtain ⟨hx, hb, hr, hml, hown, hts0, hX, hbl, hlocks, hgv⟩ := id C0
  have hts : ∀ w ∈ wsL_law, w.before #[Value.ref b] s = true := fun w h => hts0 w (wsL_law_in w h)
  have hbA : ¬ A0 s b := Nat.not_le.mpr hbl
  obtain ⟨apA, apM, hne, hK, hN, hW, hU, hZ⟩ := hG
  obtain ⟨hP, hT, hS, hR, hR7, n9, m9, hcp⟩ := hI
  obtain ⟨k, σ2, τ2, n2, m2, hM, f2, e0, rk, hcp2⟩ := wTake l dC dI cI cA a apA.1 hst hcp hR (xz_rng xs (i + 1))
  refine lv_aload_n hx hb dL_law_697 rfl (lv_at hl 1 rfl) ?_
  refine lv_aload_n hx hb dL_law_698 rfl (lv_at hl 0 rfl) ?_
  refine lv_iload_n hx hb dL_law_699 rfl (lv_at hl 3 rfl) ?_
  refine lv_iconst (v := iN 1) hx hb dL_law_700 rfl ?_
  refine x_iadd hx hb dL_law_701 ?_
  refine x_sld (A := A0 s) (j := i + 1) hx hb hX hbl hbA hS (by omega) (by omega) hL dL_law_702 ?_
  refine x_callMX (gA_sub apA) (vx_runSX (As := [.ref (a 0), .int (iN (xz xs (i + 1)))]) (rest := []) ⟨hx, hb, hml, hown, hts⟩ hM (vx_cwSW 2 hts gL_law_L_take rfl rfl rfl hL_take_d ⟨by decide, by decide⟩) (psX hP hK hN hW ((hU.kept hS.2.1).narrow (gA_sub apA)) ((hZ.kept hS.2.1).narrow (gA_sub apA))) rfl rfl hl.1 rfl (lv_room (Nat.le_of_ble_eq_true rfl)) dL_law_703 ⟨show cells + 1 ≤ 601024 by omega, show slots + 6 ≤ 7293034 by omega⟩) hS (fun _ hR1 H1 locs1 hP1 hS1 hk1 hz1 => ?_)
  have hT1 := gw_keep hT hne hk1
  refine lv_istore (lv' := [(4, .int (iN k)), (0, .ref b), (1, .ref (a 0)), (2, .ref (d 0)), (3, .int (iN (i : Int)))]) hx hb dL_law_706 hl (by decide) rfl (fun ls hl => ?_)
  refine lv_aload_n hx hb dL_law_708 rfl (lv_at hl 3 rfl) ?_
  refine lv_aload_n hx hb dL_law_709 rfl (lv_at hl 1 rfl) ?_
  refine lv_iload_n hx hb dL_law_710 rfl (lv_at hl 4 rfl) ?_
  refine lv_iconst (v := iN 1) hx hb dL_law_711 rfl ?_
  refine x_iadd hx hb dL_law_712 ?_
  refine x_sld (A := A0 s) (j := i + 1) hx hb hX hbl hbA hS1 (by omega) (by omega) hL dL_law_713 ?_
  refine x_callMvA (gA_sub apM) (va_runV (As := [.int (iN (xz xs (i + 1)))]) (rest := []) ⟨hx, hb, hml, hown, hts⟩ (kX7_take_0 l dC dI cI d apM.1 τ _ (0, τ2) f2 hR7 (xz_rng _ _)) (cwV 1 hts gL_law_X7_take rfl rfl rfl hX7_take_d ⟨by decide, by decide⟩) (pvM 0 (by decide) (mE_0 cI d (_)) rfl hT1 (hK.sub [0] rfl)) rfl rfl hl.1 rfl (lv_room (Nat.le_of_ble_eq_true rfl)) dL_law_714 ⟨show cells + 1 + 0 ≤ 601024 by omega, show slots + 6 + 0 ≤ 7293034 by omega⟩) hS1 (fun hR3 H2 locs2 hT2 hS2 hk2 hz2 => ?_)
  have hP2 := gw_keep hP1 (fun i j h1 h2 e9 => hne j i h2 h1 e9.symm) hk2
  refine lv_aload_n hx hb dL_law_717 rfl (lv_at hl 3 rfl) ?_
  refine x_callP (va_runV (As := []) (rest := []) ⟨hx, hb, hml, hown, hts⟩ (kX7_thrown_0 l dC dI cI d τ2 (τ2 0 0) rfl hR3) (cwV 0 hts gL_law_X7_thrown rfl rfl rfl hX7_thrown_d ⟨by decide, by decide⟩) (pvM 0 (by decide) (mE_0 cI d (_)) rfl hT2 (hK.sub [0] rfl)) rfl rfl hl.1 rfl (lv_room (Nat.le_of_ble_eq_true rfl)) dL_law_718 ⟨show cells + 1 + 0 ≤ 601024 by omega, show slots + 6 + 0 ≤ 7293034 by omega⟩) (fun r0 => ?_)
  refine lv_iload hx hb dL_law_721 (lv_at hl 0 rfl) ?_
  refine x_icmp_eq (tgt := 728) hx hb r0 rk dL_law_723 (by decide) (fun _ => ?_) (fun h => absurd e0 h)
  refine lv_goto (tgt := 806) hx hb dL_law_728 (by decide) ?_
  exact K H2 locs2 ls σ2 τ2 _ _ (Nat.le_refl _) (Nat.le_refl _) ⟨hP2, hT2, hS2, hR1, hR3, _, _, hcp2⟩ (lv_sub hl [1, 2, 3, 4] rfl)
set_option maxHeartbeats 4000000 in
set_option maxRecDepth 100000 in
theorem lw_fits (hL : L ≤ 2048) (hst : l.stackTraces = false) (C0 : lw_At p s m meth c b L xs) (hG : lwC dC dI cI cA a d s) (hiL : i + 4 ≤ L) (hI : lwI dC dI cI cA a d s H locs σ τ) (hc : cells + 1 ≤ 601024) (hs : slots + 6 ≤ 7293034) (hl : lv_has ls 5 (lwV a d b i)) (K : lwK p l e s m below meth c dC dI cI cA a d b i cells slots) : W p l e room_1 s m #[Value.ref b] below meth c H locs cells slots (lw_Z below #[Value.ref b] s) (F0 m 731 ls []) := by
  obtain ⟨hx, hb, hr, hml, hown, hts0, hX, hbl, hlocks, hgv⟩ := id C0
  have hts : ∀ w ∈ wsL_law, w.before #[Value.ref b] s = true := fun w h => hts0 w (wsL_law_in w h)
  have hbA : ¬ A0 s b := Nat.not_le.mpr hbl
  obtain ⟨apA, apM, hne, hK, hN, hW, hU, hZ⟩ := hG
  obtain ⟨hP, hT, hS, hR, hR7, n9, m9, hcp⟩ := hI
  obtain ⟨v, τ2, f1, f2, hcp2⟩ := tFits hcp 
  refine lv_aload_n hx hb dL_law_731 rfl (lv_at hl 1 rfl) ?_
  refine x_callP (va_runV (As := []) (rest := []) ⟨hx, hb, hml, hown, hts⟩ (kX6_fits_0 l dC dI cI cA a σ  v f1 hR ) (cwV 0 hts gL_law_X6_fits rfl rfl rfl hX6_fits_d ⟨by decide, by decide⟩) (pvC 0 (by decide) (cE_0 cI cA a (_)) rfl hP hK hN) rfl rfl hl.1 rfl (lv_room (Nat.le_of_ble_eq_true rfl)) dL_law_732 ⟨show cells + 0 ≤ 601024 by omega, show slots + 0 ≤ 7293034 by omega⟩) (fun rv => ?_)
  refine lv_aload_n hx hb dL_law_735 rfl (lv_at hl 2 rfl) ?_
  refine x_callMA (gA_sub apM) (va_runV (As := []) (rest := [.int (iN v)]) ⟨hx, hb, hml, hown, hts⟩ (kX7_fits_0 l dC dI cI d apM.1 τ  (v, τ2) f2 hR7 ) (cwV 0 hts gL_law_X7_fits rfl rfl rfl hX7_fits_d ⟨by decide, by decide⟩) (pvM 0 (by decide) (mE_0 cI d (_)) rfl hT (hK.sub [0] rfl)) rfl rfl hl.1 rfl (lv_room (Nat.le_of_ble_eq_true rfl)) dL_law_736 ⟨show cells + 0 ≤ 601024 by omega, show slots + 0 ≤ 7293034 by omega⟩) hS (fun _ hR3 H2 locs2 hT2 hS2 hk2 hz2 => ?_)
  have hP2 := gw_keep hP (fun i j h1 h2 e9 => hne j i h2 h1 e9.symm) hk2
  exact x_icmp_eq (tgt := 806) hx hb rv rv dL_law_739 (by decide) (fun _ => K H2 locs2 ls σ τ2 _ _ (Nat.le_add_right _ _) (Nat.le_add_right _ _) ⟨hP2, hT2, hS2, hR, hR3, _, _, hcp2⟩ hl) (fun h => absurd rfl h)
set_option maxHeartbeats 4000000 in
set_option maxRecDepth 100000 in
theorem lw_blocks (hL : L ≤ 2048) (hst : l.stackTraces = false) (C0 : lw_At p s m meth c b L xs) (hG : lwC dC dI cI cA a d s) (hiL : i + 4 ≤ L) (hI : lwI dC dI cI cA a d s H locs σ τ) (hc : cells + 1 ≤ 601024) (hs : slots + 6 ≤ 7293034) (hl : lv_has ls 5 (lwV a d b i)) (K : lwK p l e s m below meth c dC dI cI cA a d b i cells slots) : W p l e room_1 s m #[Value.ref b] below meth c H locs cells slots (lw_Z below #[Value.ref b] s) (F0 m 744 ls []) := by
  obtain ⟨hx, hb, hr, hml, hown, hts0, hX, hbl, hlocks, hgv⟩ := id C0
  have hts : ∀ w ∈ wsL_law, w.before #[Value.ref b] s = true := fun w h => hts0 w (wsL_law_in w h)
  have hbA : ¬ A0 s b := Nat.not_le.mpr hbl
  obtain ⟨apA, apM, hne, hK, hN, hW, hU, hZ⟩ := hG
  obtain ⟨hP, hT, hS, hR, hR7, n9, m9, hcp⟩ := hI
  obtain ⟨v, τ2, f1, f2, hcp2⟩ := tBlocks hcp 
  refine lv_aload_n hx hb dL_law_744 rfl (lv_at hl 1 rfl) ?_
  refine x_callP (va_runV (As := []) (rest := []) ⟨hx, hb, hml, hown, hts⟩ (kX6_blocks_0 l dC dI cI cA a σ  v f1 hR ) (cwV 0 hts gL_law_X6_blocks rfl rfl rfl hX6_blocks_d ⟨by decide, by decide⟩) (pvC 0 (by decide) (cE_0 cI cA a (_)) rfl hP hK hN) rfl rfl hl.1 rfl (lv_room (Nat.le_of_ble_eq_true rfl)) dL_law_745 ⟨show cells + 0 ≤ 601024 by omega, show slots + 0 ≤ 7293034 by omega⟩) (fun rv => ?_)
  refine lv_aload_n hx hb dL_law_748 rfl (lv_at hl 2 rfl) ?_
  refine x_callMA (gA_sub apM) (va_runV (As := []) (rest := [.int (iN v)]) ⟨hx, hb, hml, hown, hts⟩ (kX7_blocks_0 l dC dI cI d apM.1 τ  (v, τ2) f2 hR7 ) (cwV 0 hts gL_law_X7_blocks rfl rfl rfl hX7_blocks_d ⟨by decide, by decide⟩) (pvM 0 (by decide) (mE_0 cI d (_)) rfl hT (hK.sub [0] rfl)) rfl rfl hl.1 rfl (lv_room (Nat.le_of_ble_eq_true rfl)) dL_law_749 ⟨show cells + 0 ≤ 601024 by omega, show slots + 0 ≤ 7293034 by omega⟩) hS (fun _ hR3 H2 locs2 hT2 hS2 hk2 hz2 => ?_)
  have hP2 := gw_keep hP (fun i j h1 h2 e9 => hne j i h2 h1 e9.symm) hk2
  exact x_icmp_eq (tgt := 806) hx hb rv rv dL_law_752 (by decide) (fun _ => K H2 locs2 ls σ τ2 _ _ (Nat.le_add_right _ _) (Nat.le_add_right _ _) ⟨hP2, hT2, hS2, hR, hR3, _, _, hcp2⟩ hl) (fun h => absurd rfl h)
set_option maxHeartbeats 4000000 in
set_option maxRecDepth 100000 in
theorem lw_blocking (hL : L ≤ 2048) (hst : l.stackTraces = false) (C0 : lw_At p s m meth c b L xs) (hG : lwC dC dI cI cA a d s) (hiL : i + 4 ≤ L) (hI : lwI dC dI cI cA a d s H locs σ τ) (hc : cells + 1 ≤ 601024) (hs : slots + 6 ≤ 7293034) (hl : lv_has ls 5 (lwV a d b i)) (K : lwK p l e s m below meth c dC dI cI cA a d b i cells slots) : W p l e room_1 s m #[Value.ref b] below meth c H locs cells slots (lw_Z below #[Value.ref b] s) (F0 m 757 ls []) := by
  obtain ⟨hx, hb, hr, hml, hown, hts0, hX, hbl, hlocks, hgv⟩ := id C0
  have hts : ∀ w ∈ wsL_law, w.before #[Value.ref b] s = true := fun w h => hts0 w (wsL_law_in w h)
  have hbA : ¬ A0 s b := Nat.not_le.mpr hbl
  obtain ⟨apA, apM, hne, hK, hN, hW, hU, hZ⟩ := hG
  obtain ⟨hP, hT, hS, hR, hR7, n9, m9, hcp⟩ := hI
  obtain ⟨v, τ2, f1, f2, hcp2⟩ := tBlocking hcp (xz xs (i + 1))
  refine lv_aload_n hx hb dL_law_757 rfl (lv_at hl 1 rfl) ?_
  refine lv_aload_n hx hb dL_law_758 rfl (lv_at hl 0 rfl) ?_
  refine lv_iload_n hx hb dL_law_759 rfl (lv_at hl 3 rfl) ?_
  refine lv_iconst (v := iN 1) hx hb dL_law_760 rfl ?_
  refine x_iadd hx hb dL_law_761 ?_
  refine x_sld (A := A0 s) (j := i + 1) hx hb hX hbl hbA hS (by omega) (by omega) hL dL_law_762 ?_
  refine x_callP (va_runV (As := [.int (iN (xz xs (i + 1)))]) (rest := []) ⟨hx, hb, hml, hown, hts⟩ (kX6_blocking_0 l dC dI cI cA a σ _ v f1 hR (xz_rng _ _)) (cwV 1 hts gL_law_X6_blocking rfl rfl rfl hX6_blocking_d ⟨by decide, by decide⟩) (pvC 0 (by decide) (cE_0 cI cA a (_)) rfl hP hK hN) rfl rfl hl.1 rfl (lv_room (Nat.le_of_ble_eq_true rfl)) dL_law_763 ⟨show cells + 0 ≤ 601024 by omega, show slots + 0 ≤ 7293034 by omega⟩) (fun rv => ?_)
  refine lv_aload_n hx hb dL_law_766 rfl (lv_at hl 2 rfl) ?_
  refine lv_aload_n hx hb dL_law_767 rfl (lv_at hl 0 rfl) ?_
  refine lv_iload_n hx hb dL_law_768 rfl (lv_at hl 3 rfl) ?_
  refine lv_iconst (v := iN 1) hx hb dL_law_769 rfl ?_
  refine x_iadd hx hb dL_law_770 ?_
  refine x_sld (A := A0 s) (j := i + 1) hx hb hX hbl hbA hS (by omega) (by omega) hL dL_law_771 ?_
  refine x_callMA (gA_sub apM) (va_runV (As := [.int (iN (xz xs (i + 1)))]) (rest := [.int (iN v)]) ⟨hx, hb, hml, hown, hts⟩ (kX7_blocking_0 l dC dI cI d apM.1 τ _ (v, τ2) f2 hR7 (xz_rng _ _)) (cwV 1 hts gL_law_X7_blocking rfl rfl rfl hX7_blocking_d ⟨by decide, by decide⟩) (pvM 0 (by decide) (mE_0 cI d (_)) rfl hT (hK.sub [0] rfl)) rfl rfl hl.1 rfl (lv_room (Nat.le_of_ble_eq_true rfl)) dL_law_772 ⟨show cells + 0 ≤ 601024 by omega, show slots + 0 ≤ 7293034 by omega⟩) hS (fun _ hR3 H2 locs2 hT2 hS2 hk2 hz2 => ?_)
  have hP2 := gw_keep hP (fun i j h1 h2 e9 => hne j i h2 h1 e9.symm) hk2
  exact x_icmp_eq (tgt := 806) hx hb rv rv dL_law_775 (by decide) (fun _ => K H2 locs2 ls σ τ2 _ _ (Nat.le_add_right _ _) (Nat.le_add_right _ _) ⟨hP2, hT2, hS2, hR, hR3, _, _, hcp2⟩ hl) (fun h => absurd rfl h)
set_option maxHeartbeats 4000000 in
set_option maxRecDepth 100000 in
theorem lw_which (hL : L ≤ 2048) (hst : l.stackTraces = false) (C0 : lw_At p s m meth c b L xs) (hG : lwC dC dI cI cA a d s) (hiL : i + 4 ≤ L) (hI : lwI dC dI cI cA a d s H locs σ τ) (hc : cells + 1 ≤ 601024) (hs : slots + 6 ≤ 7293034) (hl : lv_has ls 5 (lwV a d b i)) (K : lwK p l e s m below meth c dC dI cI cA a d b i cells slots) : W p l e room_1 s m #[Value.ref b] below meth c H locs cells slots (lw_Z below #[Value.ref b] s) (F0 m 780 ls []) := by
  obtain ⟨hx, hb, hr, hml, hown, hts0, hX, hbl, hlocks, hgv⟩ := id C0
  have hts : ∀ w ∈ wsL_law, w.before #[Value.ref b] s = true := fun w h => hts0 w (wsL_law_in w h)
  have hbA : ¬ A0 s b := Nat.not_le.mpr hbl
  obtain ⟨apA, apM, hne, hK, hN, hW, hU, hZ⟩ := hG
  obtain ⟨hP, hT, hS, hR, hR7, n9, m9, hcp⟩ := hI
  obtain ⟨v, τ2, f1, f2, hcp2⟩ := tWhich hcp 
  refine lv_aload_n hx hb dL_law_780 rfl (lv_at hl 1 rfl) ?_
  refine x_callP (va_runV (As := []) (rest := []) ⟨hx, hb, hml, hown, hts⟩ (kX6_which_0 l dC dI cI cA a σ  v f1 hR ) (cwV 0 hts gL_law_X6_which rfl rfl rfl hX6_which_d ⟨by decide, by decide⟩) (pvC 0 (by decide) (cE_0 cI cA a (_)) rfl hP hK hN) rfl rfl hl.1 rfl (lv_room (Nat.le_of_ble_eq_true rfl)) dL_law_781 ⟨show cells + 0 ≤ 601024 by omega, show slots + 0 ≤ 7293034 by omega⟩) (fun rv => ?_)
  refine lv_aload_n hx hb dL_law_784 rfl (lv_at hl 2 rfl) ?_
  refine x_callMA (gA_sub apM) (va_runV (As := []) (rest := [.int (iN v)]) ⟨hx, hb, hml, hown, hts⟩ (kX7_which_0 l dC dI cI d apM.1 τ  (v, τ2) f2 hR7 ) (cwV 0 hts gL_law_X7_which rfl rfl rfl hX7_which_d ⟨by decide, by decide⟩) (pvM 0 (by decide) (mE_0 cI d (_)) rfl hT (hK.sub [0] rfl)) rfl rfl hl.1 rfl (lv_room (Nat.le_of_ble_eq_true rfl)) dL_law_785 ⟨show cells + 0 ≤ 601024 by omega, show slots + 0 ≤ 7293034 by omega⟩) hS (fun _ hR3 H2 locs2 hT2 hS2 hk2 hz2 => ?_)
  have hP2 := gw_keep hP (fun i j h1 h2 e9 => hne j i h2 h1 e9.symm) hk2
  exact x_icmp_eq (tgt := 806) hx hb rv rv dL_law_788 (by decide) (fun _ => K H2 locs2 ls σ τ2 _ _ (Nat.le_add_right _ _) (Nat.le_add_right _ _) ⟨hP2, hT2, hS2, hR, hR3, _, _, hcp2⟩ hl) (fun h => absurd rfl h)
set_option maxHeartbeats 4000000 in
set_option maxRecDepth 100000 in
theorem lw_check (hL : L ≤ 2048) (hst : l.stackTraces = false) (C0 : lw_At p s m meth c b L xs) (hG : lwC dC dI cI cA a d s) (hiL : i + 4 ≤ L) (hI : lwI dC dI cI cA a d s H locs σ τ) (hc : cells + 1 ≤ 601024) (hs : slots + 6 ≤ 7293034) (hl : lv_has ls 5 (lwV a d b i)) (K : lwK p l e s m below meth c dC dI cI cA a d b i cells slots) : W p l e room_1 s m #[Value.ref b] below meth c H locs cells slots (lw_Z below #[Value.ref b] s) (F0 m 793 ls []) := by
  obtain ⟨hx, hb, hr, hml, hown, hts0, hX, hbl, hlocks, hgv⟩ := id C0
  have hts : ∀ w ∈ wsL_law, w.before #[Value.ref b] s = true := fun w h => hts0 w (wsL_law_in w h)
  have hbA : ¬ A0 s b := Nat.not_le.mpr hbl
  obtain ⟨apA, apM, hne, hK, hN, hW, hU, hZ⟩ := hG
  obtain ⟨hP, hT, hS, hR, hR7, n9, m9, hcp⟩ := hI
  obtain ⟨v, σ2, τ2, f1, f2, hcp2⟩ := tCheck hcp 
  refine lv_aload_n hx hb dL_law_793 rfl (lv_at hl 1 rfl) ?_
  refine x_callMA (gA_sub apA) (va_runV (As := []) (rest := []) ⟨hx, hb, hml, hown, hts⟩ (kX6_check_0 l dC dI cI cA a apA.1 σ  (v, σ2) f1 hR ) (cwV 0 hts gL_law_X6_check rfl rfl rfl hX6_check_d ⟨by decide, by decide⟩) (pvC 0 (by decide) (cE_0 cI cA a (_)) rfl hP hK hN) rfl rfl hl.1 rfl (lv_room (Nat.le_of_ble_eq_true rfl)) dL_law_794 ⟨show cells + 0 ≤ 601024 by omega, show slots + 0 ≤ 7293034 by omega⟩) hS (fun rv hR1 H1 locs1 hP1 hS1 hk1 hz1 => ?_)
  have hT1 := gw_keep hT hne hk1
  refine lv_aload_n hx hb dL_law_797 rfl (lv_at hl 2 rfl) ?_
  refine x_callMA (gA_sub apM) (va_runV (As := []) (rest := [.int (iN v)]) ⟨hx, hb, hml, hown, hts⟩ (kX7_check_0 l dC dI cI d apM.1 τ  (v, τ2) f2 hR7 ) (cwV 0 hts gL_law_X7_check rfl rfl rfl hX7_check_d ⟨by decide, by decide⟩) (pvM 0 (by decide) (mE_0 cI d (_)) rfl hT1 (hK.sub [0] rfl)) rfl rfl hl.1 rfl (lv_room (Nat.le_of_ble_eq_true rfl)) dL_law_798 ⟨show cells + 0 ≤ 601024 by omega, show slots + 0 ≤ 7293034 by omega⟩) hS1 (fun _ hR3 H2 locs2 hT2 hS2 hk2 hz2 => ?_)
  have hP2 := gw_keep hP1 (fun i j h1 h2 e9 => hne j i h2 h1 e9.symm) hk2
  exact x_icmp_eq (tgt := 806) hx hb rv rv dL_law_801 (by decide) (fun _ => K H2 locs2 ls σ2 τ2 _ _ (Nat.le_add_right _ _) (Nat.le_add_right _ _) ⟨hP2, hT2, hS2, hR1, hR3, _, _, hcp2⟩ hl) (fun h => absurd rfl h)
end LC
