/-! THE CONSTRUCTORS of the class's parts (printed by wip/whole/pure/p86.py) -/
theorem hX2_init_d : yX2_init.cls ≠ "java/lang/invoke/MethodHandle" ∧ yX2_init.cls ≠ "java/lang/invoke/VarHandle" ∧ (parseMethodDescriptor yX2_init.desc).map (fun d => d.parameters.length) = some 0 := by decide +kernel
theorem hX1_init_d : yX1_init.cls ≠ "java/lang/invoke/MethodHandle" ∧ yX1_init.cls ≠ "java/lang/invoke/VarHandle" ∧ (parseMethodDescriptor yX1_init.desc).map (fun d => d.parameters.length) = some 0 := by decide +kernel
theorem hX3_init_d : yX3_init.cls ≠ "java/lang/invoke/MethodHandle" ∧ yX3_init.cls ≠ "java/lang/invoke/VarHandle" ∧ (parseMethodDescriptor yX3_init.desc).map (fun d => d.parameters.length) = some 1 := by decide +kernel
theorem hX5_init_d : yX5_init.cls ≠ "java/lang/invoke/MethodHandle" ∧ yX5_init.cls ≠ "java/lang/invoke/VarHandle" ∧ (parseMethodDescriptor yX5_init.desc).map (fun d => d.parameters.length) = some 1 := by decide +kernel
theorem hX4_init_d : yX4_init.cls ≠ "java/lang/invoke/MethodHandle" ∧ yX4_init.cls ≠ "java/lang/invoke/VarHandle" ∧ (parseMethodDescriptor yX4_init.desc).map (fun d => d.parameters.length) = some 1 := by decide +kernel
theorem hX0_init_d : yX0_init.cls ≠ "java/lang/invoke/MethodHandle" ∧ yX0_init.cls ≠ "java/lang/invoke/VarHandle" ∧ (parseMethodDescriptor yX0_init.desc).map (fun d => d.parameters.length) = some 3 := by decide +kernel
theorem hX6_init_d : yX6_init.cls ≠ "java/lang/invoke/MethodHandle" ∧ yX6_init.cls ≠ "java/lang/invoke/VarHandle" ∧ (parseMethodDescriptor yX6_init.desc).map (fun d => d.parameters.length) = some 0 := by decide +kernel
theorem hX7_init_d : yX7_init.cls ≠ "java/lang/invoke/MethodHandle" ∧ yX7_init.cls ≠ "java/lang/invoke/VarHandle" ∧ (parseMethodDescriptor yX7_init.desc).map (fun d => d.parameters.length) = some 0 := by decide +kernel
set_option maxHeartbeats 4000000 in
set_option maxRecDepth 100000 in
theorem jX2 (l : Launch) (dC : Nat → ClassId) (dI : Nat → Nat → Nat) (cI cA : ClassId) (A : Nat → Prop) (ws : va_W) (h : Nat) : Met l yX2_init wsX2_init ({ frames := 2, cells := 8, slots := 48, locals := 60 }) (va_Pc [.ref h] (preI dC dI cI cA A (ws ++ [(h, .inr (2, [.null, .null, .int 0, .int 0]))]))) (qI A (fun H => ∃ g : Nat, ∃ r : Nat → Nat, ∃ q3 : Nat, va_P (dC, dI) vwCl (ws ++ [(h, .inr (2, [.ref g, .ref q3, .int 0, .int 0])), (g, .inl (cA, 6, .inr (.inr (.inr (.inr (fun i => if i < 6 then some (r i) else none)))))), (r 0, .inl (cI, 6, .inl (fun _ => 0))), (r 1, .inl (cI, 6, .inl (fun _ => 0))), (r 2, .inl (cI, 6, .inl (fun _ => 0))), (r 3, .inl (cI, 6, .inl (fun _ => 0))), (r 4, .inl (cI, 6, .inl (fun _ => 0))), (r 5, .inl (cI, 6, .inl (fun _ => 0))), (q3, .inl (cI, 6, .inl (fun _ => 0)))]) H ∧ va_D A (ws ++ [(h, .inr (2, [.ref g, .ref q3, .int 0, .int 0])), (g, .inl (cA, 6, .inr (.inr (.inr (.inr (fun i => if i < 6 then some (r i) else none)))))), (r 0, .inl (cI, 6, .inl (fun _ => 0))), (r 1, .inl (cI, 6, .inl (fun _ => 0))), (r 2, .inl (cI, 6, .inl (fun _ => 0))), (r 3, .inl (cI, 6, .inl (fun _ => 0))), (r 4, .inl (cI, 6, .inl (fun _ => 0))), (r 5, .inl (cI, 6, .inl (fun _ => 0))), (q3, .inl (cI, 6, .inl (fun _ => 0)))]))) 8 48 A := by
  refine Met.ofW (cc := cX2_init) (maxL := 1) (ret := none) (by decide) rfl ?_
  intro p e s m args below meth c s₁ B hml hv
  obtain ⟨hargs, hP, hD, hK, hN, hM, hA⟩ := hv
  have hx := B.exec
  have hb := B.bytes
  have hr := B.returns
  have hts := atoms_spec (ws := wsX2_init) B.pre
  have hown : s.vm.findClass RX2 = some m.cls := findClass_of_methodNamed B.named
  have hlocks := B.notSynchronized
  have hin : meth.name = "<init>" := (name_of_methodNamed B.named B.method).1
  have hS : va_S A s.heap s.heap [] := va_S.rf
  have iX2 : ∀ w ∈ wsX20, w ∈ wsX2_init := by decide +kernel
  have hrm : 2 ≤ (headSpec wsX2_init ({ frames := 2, cells := 8, slots := 48, locals := 60 })).room.frames ∧ 60 ≤ (headSpec wsX2_init ({ frames := 2, cells := 8, slots := 48, locals := 60 })).room.locals := ⟨Nat.le_refl _, Nat.le_refl _⟩
  have hrc : 8 ≤ (headSpec wsX2_init ({ frames := 2, cells := 8, slots := 48, locals := 60 })).room.cells ∧ 48 ≤ (headSpec wsX2_init ({ frames := 2, cells := 8, slots := 48, locals := 60 })).room.slots := ⟨Nat.le_refl _, Nat.le_refl _⟩
  generalize (headSpec wsX2_init ({ frames := 2, cells := 8, slots := 48, locals := 60 })).room = RR at hrm hrc ⊢
  have hl := lv_entry ([.ref h]) (n := 1) (Nat.le_of_ble_eq_true rfl)
  rw [show entryFrame m args 1 = entryFrame m ([.ref h] : List Value).toArray 1 from by rw [hargs], lg_entry_eq]
  generalize (lg_sl ([.ref h]) ++ List.replicate (1 - (lg_sl ([.ref h])).length) Slot.unset).toArray = ls at hl ⊢
  have hl : lv_has ls 1 [(0, .ref h)] := hl
  refine lv_aload_n hx hb dX2_init_0 rfl (lv_at hl 0 rfl) ?_
  refine W.objInit hx hb hown (hts (.methodLink RX2 3 objectInit) (by decide +kernel)) (hts (.instanceMethod objectInit) (by decide +kernel)) (hts (.code objectInit ⟨#[0xb1]⟩ 1 none) (by decide +kernel)) rfl (by rw [hml]; exact hl.1) rfl dX2_init_1 (Nat.le_trans (by decide) hrm.1) (Nat.le_trans (Nat.le_of_ble_eq_true rfl) hrm.2) ?_
  refine W.eq (g2 := F0 m 4 ls []) rfl ?_
  refine lv_aload_n hx hb dX2_init_4 rfl (lv_at hl 0 rfl) ?_
  refine lv_bipush (v := iN 6) hx hb dX2_init_5 (by decide) ?_
  refine lv_bipush (v := iN 6) hx hb dX2_init_7 (by decide) ?_
  refine x_mna (ws := ws) (tl := [(h, .inr (2, [.null, .null, .int 0, .int 0]))]) hx hb hown (hts (.classLink RX2 9 "[[I") (by decide +kernel)) hM.1 (hts (.arrayClass .int) (by decide +kernel)) hK hP hD hS hA (Nat.le_trans (by decide) hrc.1) (Nat.le_trans (by decide) hrc.2) dX2_init_9 (fun g r H hP hD hS => ?_)
  have hP : va_P (dC, dI) vwCl (ws ++ [(h, .inr (2, [.null, .null, .int 0, .int 0])), (g, .inl (cA, 6, .inr (.inr (.inr (.inr (fun i => if i < 6 then some (r i) else none)))))), (r 0, .inl (cI, 6, .inl (fun _ => 0))), (r 1, .inl (cI, 6, .inl (fun _ => 0))), (r 2, .inl (cI, 6, .inl (fun _ => 0))), (r 3, .inl (cI, 6, .inl (fun _ => 0))), (r 4, .inl (cI, 6, .inl (fun _ => 0))), (r 5, .inl (cI, 6, .inl (fun _ => 0)))]) H := hP
  have hD : va_D A (ws ++ [(h, .inr (2, [.null, .null, .int 0, .int 0])), (g, .inl (cA, 6, .inr (.inr (.inr (.inr (fun i => if i < 6 then some (r i) else none)))))), (r 0, .inl (cI, 6, .inl (fun _ => 0))), (r 1, .inl (cI, 6, .inl (fun _ => 0))), (r 2, .inl (cI, 6, .inl (fun _ => 0))), (r 3, .inl (cI, 6, .inl (fun _ => 0))), (r 4, .inl (cI, 6, .inl (fun _ => 0))), (r 5, .inl (cI, 6, .inl (fun _ => 0)))]) := hD
  refine x_putI (v := .ref g) (ty := .array (.array .int)) (C := RX2) (T := TX2) (NF := 4) hx hb hts iX2 tyX2 tyX2_ok nmX2 hown hK (ws) ([(g, .inl (cA, 6, .inr (.inr (.inr (.inr (fun i => if i < 6 then some (r i) else none)))))), (r 0, .inl (cI, 6, .inl (fun _ => 0))), (r 1, .inl (cI, 6, .inl (fun _ => 0))), (r 2, .inl (cI, 6, .inl (fun _ => 0))), (r 3, .inl (cI, 6, .inl (fun _ => 0))), (r 4, .inl (cI, 6, .inl (fun _ => 0))), (r 5, .inl (cI, 6, .inl (fun _ => 0)))]) hP hD hS rfl 0 (by decide) (hts (.fieldLink RX2 11 "MatchHall$Lists" "places" "[[I") (by decide +kernel)) rfl hin rfl (by decide +kernel) rfl rfl (Nat.le_of_ble_eq_true rfl) dX2_init_13 (fun H locs hP hD hS => ?_)
  have hP : va_P (dC, dI) vwCl (ws ++ [(h, .inr (2, [.ref g, .null, .int 0, .int 0])), (g, .inl (cA, 6, .inr (.inr (.inr (.inr (fun i => if i < 6 then some (r i) else none)))))), (r 0, .inl (cI, 6, .inl (fun _ => 0))), (r 1, .inl (cI, 6, .inl (fun _ => 0))), (r 2, .inl (cI, 6, .inl (fun _ => 0))), (r 3, .inl (cI, 6, .inl (fun _ => 0))), (r 4, .inl (cI, 6, .inl (fun _ => 0))), (r 5, .inl (cI, 6, .inl (fun _ => 0)))]) H := hP
  have hD : va_D A (ws ++ [(h, .inr (2, [.ref g, .null, .int 0, .int 0])), (g, .inl (cA, 6, .inr (.inr (.inr (.inr (fun i => if i < 6 then some (r i) else none)))))), (r 0, .inl (cI, 6, .inl (fun _ => 0))), (r 1, .inl (cI, 6, .inl (fun _ => 0))), (r 2, .inl (cI, 6, .inl (fun _ => 0))), (r 3, .inl (cI, 6, .inl (fun _ => 0))), (r 4, .inl (cI, 6, .inl (fun _ => 0))), (r 5, .inl (cI, 6, .inl (fun _ => 0)))]) := hD
  refine lv_aload_n hx hb dX2_init_16 rfl (lv_at hl 0 rfl) ?_
  refine lv_bipush (v := iN 6) hx hb dX2_init_17 (by decide) ?_
  refine x_newa (ws := ws) (tl := [(h, .inr (2, [.ref g, .null, .int 0, .int 0])), (g, .inl (cA, 6, .inr (.inr (.inr (.inr (fun i => if i < 6 then some (r i) else none)))))), (r 0, .inl (cI, 6, .inl (fun _ => 0))), (r 1, .inl (cI, 6, .inl (fun _ => 0))), (r 2, .inl (cI, 6, .inl (fun _ => 0))), (r 3, .inl (cI, 6, .inl (fun _ => 0))), (r 4, .inl (cI, 6, .inl (fun _ => 0))), (r 5, .inl (cI, 6, .inl (fun _ => 0)))]) hx hb (hts (.arrayClass .int) (by decide +kernel)) hK 0 rfl hP hD hS hA (n := 6) (N' := 6) rfl (by decide) (Nat.le_trans (by decide) hrc.1) (Nat.le_trans (by decide) hrc.2) dX2_init_19 (fun q3 H hP hD hS => ?_)
  have hP : va_P (dC, dI) vwCl (ws ++ [(h, .inr (2, [.ref g, .null, .int 0, .int 0])), (g, .inl (cA, 6, .inr (.inr (.inr (.inr (fun i => if i < 6 then some (r i) else none)))))), (r 0, .inl (cI, 6, .inl (fun _ => 0))), (r 1, .inl (cI, 6, .inl (fun _ => 0))), (r 2, .inl (cI, 6, .inl (fun _ => 0))), (r 3, .inl (cI, 6, .inl (fun _ => 0))), (r 4, .inl (cI, 6, .inl (fun _ => 0))), (r 5, .inl (cI, 6, .inl (fun _ => 0))), (q3, .inl (cI, 6, .inl (fun _ => 0)))]) H := hP
  have hD : va_D A (ws ++ [(h, .inr (2, [.ref g, .null, .int 0, .int 0])), (g, .inl (cA, 6, .inr (.inr (.inr (.inr (fun i => if i < 6 then some (r i) else none)))))), (r 0, .inl (cI, 6, .inl (fun _ => 0))), (r 1, .inl (cI, 6, .inl (fun _ => 0))), (r 2, .inl (cI, 6, .inl (fun _ => 0))), (r 3, .inl (cI, 6, .inl (fun _ => 0))), (r 4, .inl (cI, 6, .inl (fun _ => 0))), (r 5, .inl (cI, 6, .inl (fun _ => 0))), (q3, .inl (cI, 6, .inl (fun _ => 0)))]) := hD
  refine x_putI (v := .ref q3) (ty := .array .int) (C := RX2) (T := TX2) (NF := 4) hx hb hts iX2 tyX2 tyX2_ok nmX2 hown hK (ws) ([(g, .inl (cA, 6, .inr (.inr (.inr (.inr (fun i => if i < 6 then some (r i) else none)))))), (r 0, .inl (cI, 6, .inl (fun _ => 0))), (r 1, .inl (cI, 6, .inl (fun _ => 0))), (r 2, .inl (cI, 6, .inl (fun _ => 0))), (r 3, .inl (cI, 6, .inl (fun _ => 0))), (r 4, .inl (cI, 6, .inl (fun _ => 0))), (r 5, .inl (cI, 6, .inl (fun _ => 0))), (q3, .inl (cI, 6, .inl (fun _ => 0)))]) hP hD hS rfl 1 (by decide) (hts (.fieldLink RX2 16 "MatchHall$Lists" "sizes" "[I") (by decide +kernel)) rfl hin rfl (by decide +kernel) rfl rfl (Nat.le_of_ble_eq_true rfl) dX2_init_21 (fun H locs hP hD hS => ?_)
  have hP : va_P (dC, dI) vwCl (ws ++ [(h, .inr (2, [.ref g, .ref q3, .int 0, .int 0])), (g, .inl (cA, 6, .inr (.inr (.inr (.inr (fun i => if i < 6 then some (r i) else none)))))), (r 0, .inl (cI, 6, .inl (fun _ => 0))), (r 1, .inl (cI, 6, .inl (fun _ => 0))), (r 2, .inl (cI, 6, .inl (fun _ => 0))), (r 3, .inl (cI, 6, .inl (fun _ => 0))), (r 4, .inl (cI, 6, .inl (fun _ => 0))), (r 5, .inl (cI, 6, .inl (fun _ => 0))), (q3, .inl (cI, 6, .inl (fun _ => 0)))]) H := hP
  have hD : va_D A (ws ++ [(h, .inr (2, [.ref g, .ref q3, .int 0, .int 0])), (g, .inl (cA, 6, .inr (.inr (.inr (.inr (fun i => if i < 6 then some (r i) else none)))))), (r 0, .inl (cI, 6, .inl (fun _ => 0))), (r 1, .inl (cI, 6, .inl (fun _ => 0))), (r 2, .inl (cI, 6, .inl (fun _ => 0))), (r 3, .inl (cI, 6, .inl (fun _ => 0))), (r 4, .inl (cI, 6, .inl (fun _ => 0))), (r 5, .inl (cI, 6, .inl (fun _ => 0))), (q3, .inl (cI, 6, .inl (fun _ => 0)))]) := hD
  refine W.widen (k := 8) (n := 48) (by decide) (by decide) ?_
  exact W.vret hx hb hr (fun t ht hW => ⟨rfl, ⟨g, r, q3, by rw [ht]; exact hP, hD⟩, hS.F ht⟩) hS.2.2 dX2_init_24 hlocks
set_option maxHeartbeats 4000000 in
set_option maxRecDepth 100000 in
theorem jX5 (l : Launch) (dC : Nat → ClassId) (dI : Nat → Nat → Nat) (cI cA : ClassId) (A : Nat → Prop) (ws : va_W) (h : Nat) (p1 : Nat) : Met l yX5_init wsX5_init ({ frames := 2, cells := 2, slots := 2592, locals := 60 }) (va_Pc [.ref h, .ref p1] (preI dC dI cI cA A (ws ++ [(h, .inr (5, [.null, .null, .null, .int 0]))]))) (qI A (fun H => ∃ q1 : Nat, ∃ q2 : Nat, va_P (dC, dI) vwCl (ws ++ [(h, .inr (5, [.ref p1, .ref q1, .ref q2, .int 0])), (q1, .inl (cI, 1296, .inl (fun _ => 0))), (q2, .inl (cI, 1296, .inl (fun _ => 0)))]) H ∧ va_D A (ws ++ [(h, .inr (5, [.ref p1, .ref q1, .ref q2, .int 0])), (q1, .inl (cI, 1296, .inl (fun _ => 0))), (q2, .inl (cI, 1296, .inl (fun _ => 0)))]))) 2 2592 A := by
  refine Met.ofW (cc := cX5_init) (maxL := 2) (ret := none) (by decide) rfl ?_
  intro p e s m args below meth c s₁ B hml hv
  obtain ⟨hargs, hP, hD, hK, hN, hM, hA⟩ := hv
  have hx := B.exec
  have hb := B.bytes
  have hr := B.returns
  have hts := atoms_spec (ws := wsX5_init) B.pre
  have hown : s.vm.findClass RX5 = some m.cls := findClass_of_methodNamed B.named
  have hlocks := B.notSynchronized
  have hin : meth.name = "<init>" := (name_of_methodNamed B.named B.method).1
  have hS : va_S A s.heap s.heap [] := va_S.rf
  have iX5 : ∀ w ∈ wsX50, w ∈ wsX5_init := by decide +kernel
  have hrm : 2 ≤ (headSpec wsX5_init ({ frames := 2, cells := 2, slots := 2592, locals := 60 })).room.frames ∧ 60 ≤ (headSpec wsX5_init ({ frames := 2, cells := 2, slots := 2592, locals := 60 })).room.locals := ⟨Nat.le_refl _, Nat.le_refl _⟩
  have hrc : 2 ≤ (headSpec wsX5_init ({ frames := 2, cells := 2, slots := 2592, locals := 60 })).room.cells ∧ 2592 ≤ (headSpec wsX5_init ({ frames := 2, cells := 2, slots := 2592, locals := 60 })).room.slots := ⟨Nat.le_refl _, Nat.le_refl _⟩
  generalize (headSpec wsX5_init ({ frames := 2, cells := 2, slots := 2592, locals := 60 })).room = RR at hrm hrc ⊢
  have hl := lv_entry ([.ref h, .ref p1]) (n := 2) (Nat.le_of_ble_eq_true rfl)
  rw [show entryFrame m args 2 = entryFrame m ([.ref h, .ref p1] : List Value).toArray 2 from by rw [hargs], lg_entry_eq]
  generalize (lg_sl ([.ref h, .ref p1]) ++ List.replicate (2 - (lg_sl ([.ref h, .ref p1])).length) Slot.unset).toArray = ls at hl ⊢
  have hl : lv_has ls 2 [(0, .ref h), (1, .ref p1)] := hl
  refine lv_aload_n hx hb dX5_init_0 rfl (lv_at hl 0 rfl) ?_
  refine W.objInit hx hb hown (hts (.methodLink RX5 3 objectInit) (by decide +kernel)) (hts (.instanceMethod objectInit) (by decide +kernel)) (hts (.code objectInit ⟨#[0xb1]⟩ 1 none) (by decide +kernel)) rfl (by rw [hml]; exact hl.1) rfl dX5_init_1 (Nat.le_trans (by decide) hrm.1) (Nat.le_trans (Nat.le_of_ble_eq_true rfl) hrm.2) ?_
  refine W.eq (g2 := F0 m 4 ls []) rfl ?_
  refine lv_aload_n hx hb dX5_init_4 rfl (lv_at hl 0 rfl) ?_
  refine lv_sipush (v := iN 1296) hx hb dX5_init_5 (by decide) ?_
  refine x_newa (ws := ws) (tl := [(h, .inr (5, [.null, .null, .null, .int 0]))]) hx hb (hts (.arrayClass .int) (by decide +kernel)) hK 0 rfl hP hD hS hA (n := 1296) (N' := 1296) rfl (by decide) (Nat.le_trans (by decide) hrc.1) (Nat.le_trans (by decide) hrc.2) dX5_init_8 (fun q1 H hP hD hS => ?_)
  have hP : va_P (dC, dI) vwCl (ws ++ [(h, .inr (5, [.null, .null, .null, .int 0])), (q1, .inl (cI, 1296, .inl (fun _ => 0)))]) H := hP
  have hD : va_D A (ws ++ [(h, .inr (5, [.null, .null, .null, .int 0])), (q1, .inl (cI, 1296, .inl (fun _ => 0)))]) := hD
  refine x_putI (v := .ref q1) (ty := .array .int) (C := RX5) (T := TX5) (NF := 4) hx hb hts iX5 tyX5 tyX5_ok nmX5 hown hK (ws) ([(q1, .inl (cI, 1296, .inl (fun _ => 0)))]) hP hD hS rfl 1 (by decide) (hts (.fieldLink RX5 9 "MatchHall$Stables" "hospitals" "[I") (by decide +kernel)) rfl hin rfl (by decide +kernel) rfl rfl (Nat.le_of_ble_eq_true rfl) dX5_init_10 (fun H locs hP hD hS => ?_)
  have hP : va_P (dC, dI) vwCl (ws ++ [(h, .inr (5, [.null, .ref q1, .null, .int 0])), (q1, .inl (cI, 1296, .inl (fun _ => 0)))]) H := hP
  have hD : va_D A (ws ++ [(h, .inr (5, [.null, .ref q1, .null, .int 0])), (q1, .inl (cI, 1296, .inl (fun _ => 0)))]) := hD
  refine lv_aload_n hx hb dX5_init_13 rfl (lv_at hl 0 rfl) ?_
  refine lv_sipush (v := iN 1296) hx hb dX5_init_14 (by decide) ?_
  refine x_newa (ws := ws) (tl := [(h, .inr (5, [.null, .ref q1, .null, .int 0])), (q1, .inl (cI, 1296, .inl (fun _ => 0)))]) hx hb (hts (.arrayClass .int) (by decide +kernel)) hK 0 rfl hP hD hS hA (n := 1296) (N' := 1296) rfl (by decide) (Nat.le_trans (by decide) hrc.1) (Nat.le_trans (by decide) hrc.2) dX5_init_17 (fun q2 H hP hD hS => ?_)
  have hP : va_P (dC, dI) vwCl (ws ++ [(h, .inr (5, [.null, .ref q1, .null, .int 0])), (q1, .inl (cI, 1296, .inl (fun _ => 0))), (q2, .inl (cI, 1296, .inl (fun _ => 0)))]) H := hP
  have hD : va_D A (ws ++ [(h, .inr (5, [.null, .ref q1, .null, .int 0])), (q1, .inl (cI, 1296, .inl (fun _ => 0))), (q2, .inl (cI, 1296, .inl (fun _ => 0)))]) := hD
  refine x_putI (v := .ref q2) (ty := .array .int) (C := RX5) (T := TX5) (NF := 4) hx hb hts iX5 tyX5 tyX5_ok nmX5 hown hK (ws) ([(q1, .inl (cI, 1296, .inl (fun _ => 0))), (q2, .inl (cI, 1296, .inl (fun _ => 0)))]) hP hD hS rfl 2 (by decide) (hts (.fieldLink RX5 15 "MatchHall$Stables" "places" "[I") (by decide +kernel)) rfl hin rfl (by decide +kernel) rfl rfl (Nat.le_of_ble_eq_true rfl) dX5_init_19 (fun H locs hP hD hS => ?_)
  have hP : va_P (dC, dI) vwCl (ws ++ [(h, .inr (5, [.null, .ref q1, .ref q2, .int 0])), (q1, .inl (cI, 1296, .inl (fun _ => 0))), (q2, .inl (cI, 1296, .inl (fun _ => 0)))]) H := hP
  have hD : va_D A (ws ++ [(h, .inr (5, [.null, .ref q1, .ref q2, .int 0])), (q1, .inl (cI, 1296, .inl (fun _ => 0))), (q2, .inl (cI, 1296, .inl (fun _ => 0)))]) := hD
  refine lv_aload_n hx hb dX5_init_22 rfl (lv_at hl 0 rfl) ?_
  refine lv_aload_n hx hb dX5_init_23 rfl (lv_at hl 1 rfl) ?_
  refine x_putI (v := .ref p1) (ty := .object "MatchHall$Hall") (C := RX5) (T := TX5) (NF := 4) hx hb hts iX5 tyX5 tyX5_ok nmX5 hown hK (ws) ([(q1, .inl (cI, 1296, .inl (fun _ => 0))), (q2, .inl (cI, 1296, .inl (fun _ => 0)))]) hP hD hS rfl 0 (by decide) (hts (.fieldLink RX5 18 "MatchHall$Stables" "hall" "LMatchHall$Hall;") (by decide +kernel)) rfl hin rfl (by decide +kernel) rfl rfl (Nat.le_of_ble_eq_true rfl) dX5_init_24 (fun H locs hP hD hS => ?_)
  have hP : va_P (dC, dI) vwCl (ws ++ [(h, .inr (5, [.ref p1, .ref q1, .ref q2, .int 0])), (q1, .inl (cI, 1296, .inl (fun _ => 0))), (q2, .inl (cI, 1296, .inl (fun _ => 0)))]) H := hP
  have hD : va_D A (ws ++ [(h, .inr (5, [.ref p1, .ref q1, .ref q2, .int 0])), (q1, .inl (cI, 1296, .inl (fun _ => 0))), (q2, .inl (cI, 1296, .inl (fun _ => 0)))]) := hD
  refine W.widen (k := 2) (n := 2592) (by decide) (by decide) ?_
  exact W.vret hx hb hr (fun t ht hW => ⟨rfl, ⟨q1, q2, by rw [ht]; exact hP, hD⟩, hS.F ht⟩) hS.2.2 dX5_init_27 hlocks
set_option maxHeartbeats 4000000 in
set_option maxRecDepth 100000 in
theorem jX4 (l : Launch) (dC : Nat → ClassId) (dI : Nat → Nat → Nat) (cI cA : ClassId) (A : Nat → Prop) (ws : va_W) (h : Nat) (p1 : Nat) : Met l yX4_init wsX4_init ({ frames := 2, cells := 4, slots := 261, locals := 60 }) (va_Pc [.ref h, .ref p1] (preI dC dI cI cA A (ws ++ [(h, .inr (4, [.null, .null, .null, .null, .null, .int 0]))]))) (qI A (fun H => ∃ q1 : Nat, ∃ q2 : Nat, ∃ q3 : Nat, ∃ q4 : Nat, va_P (dC, dI) vwCl (ws ++ [(h, .inr (4, [.ref p1, .ref q1, .ref q2, .ref q3, .ref q4, .int 0])), (q1, .inl (cI, 15, .inl (fun _ => 0))), (q2, .inl (cI, 15, .inl (fun _ => 0))), (q3, .inl (cI, 15, .inl (fun _ => 0))), (q4, .inl (cI, 216, .inl (fun _ => 0)))]) H ∧ va_D A (ws ++ [(h, .inr (4, [.ref p1, .ref q1, .ref q2, .ref q3, .ref q4, .int 0])), (q1, .inl (cI, 15, .inl (fun _ => 0))), (q2, .inl (cI, 15, .inl (fun _ => 0))), (q3, .inl (cI, 15, .inl (fun _ => 0))), (q4, .inl (cI, 216, .inl (fun _ => 0)))]))) 4 261 A := by
  refine Met.ofW (cc := cX4_init) (maxL := 2) (ret := none) (by decide) rfl ?_
  intro p e s m args below meth c s₁ B hml hv
  obtain ⟨hargs, hP, hD, hK, hN, hM, hA⟩ := hv
  have hx := B.exec
  have hb := B.bytes
  have hr := B.returns
  have hts := atoms_spec (ws := wsX4_init) B.pre
  have hown : s.vm.findClass RX4 = some m.cls := findClass_of_methodNamed B.named
  have hlocks := B.notSynchronized
  have hin : meth.name = "<init>" := (name_of_methodNamed B.named B.method).1
  have hS : va_S A s.heap s.heap [] := va_S.rf
  have iX4 : ∀ w ∈ wsX40, w ∈ wsX4_init := by decide +kernel
  have hrm : 2 ≤ (headSpec wsX4_init ({ frames := 2, cells := 4, slots := 261, locals := 60 })).room.frames ∧ 60 ≤ (headSpec wsX4_init ({ frames := 2, cells := 4, slots := 261, locals := 60 })).room.locals := ⟨Nat.le_refl _, Nat.le_refl _⟩
  have hrc : 4 ≤ (headSpec wsX4_init ({ frames := 2, cells := 4, slots := 261, locals := 60 })).room.cells ∧ 261 ≤ (headSpec wsX4_init ({ frames := 2, cells := 4, slots := 261, locals := 60 })).room.slots := ⟨Nat.le_refl _, Nat.le_refl _⟩
  generalize (headSpec wsX4_init ({ frames := 2, cells := 4, slots := 261, locals := 60 })).room = RR at hrm hrc ⊢
  have hl := lv_entry ([.ref h, .ref p1]) (n := 2) (Nat.le_of_ble_eq_true rfl)
  rw [show entryFrame m args 2 = entryFrame m ([.ref h, .ref p1] : List Value).toArray 2 from by rw [hargs], lg_entry_eq]
  generalize (lg_sl ([.ref h, .ref p1]) ++ List.replicate (2 - (lg_sl ([.ref h, .ref p1])).length) Slot.unset).toArray = ls at hl ⊢
  have hl : lv_has ls 2 [(0, .ref h), (1, .ref p1)] := hl
  refine lv_aload_n hx hb dX4_init_0 rfl (lv_at hl 0 rfl) ?_
  refine W.objInit hx hb hown (hts (.methodLink RX4 3 objectInit) (by decide +kernel)) (hts (.instanceMethod objectInit) (by decide +kernel)) (hts (.code objectInit ⟨#[0xb1]⟩ 1 none) (by decide +kernel)) rfl (by rw [hml]; exact hl.1) rfl dX4_init_1 (Nat.le_trans (by decide) hrm.1) (Nat.le_trans (Nat.le_of_ble_eq_true rfl) hrm.2) ?_
  refine W.eq (g2 := F0 m 4 ls []) rfl ?_
  refine lv_aload_n hx hb dX4_init_4 rfl (lv_at hl 0 rfl) ?_
  refine lv_bipush (v := iN 15) hx hb dX4_init_5 (by decide) ?_
  refine x_newa (ws := ws) (tl := [(h, .inr (4, [.null, .null, .null, .null, .null, .int 0]))]) hx hb (hts (.arrayClass .int) (by decide +kernel)) hK 0 rfl hP hD hS hA (n := 15) (N' := 15) rfl (by decide) (Nat.le_trans (by decide) hrc.1) (Nat.le_trans (by decide) hrc.2) dX4_init_7 (fun q1 H hP hD hS => ?_)
  have hP : va_P (dC, dI) vwCl (ws ++ [(h, .inr (4, [.null, .null, .null, .null, .null, .int 0])), (q1, .inl (cI, 15, .inl (fun _ => 0)))]) H := hP
  have hD : va_D A (ws ++ [(h, .inr (4, [.null, .null, .null, .null, .null, .int 0])), (q1, .inl (cI, 15, .inl (fun _ => 0)))]) := hD
  refine x_putI (v := .ref q1) (ty := .array .int) (C := RX4) (T := TX4) (NF := 6) hx hb hts iX4 tyX4 tyX4_ok nmX4 hown hK (ws) ([(q1, .inl (cI, 15, .inl (fun _ => 0)))]) hP hD hS rfl 1 (by decide) (hts (.fieldLink RX4 9 "MatchHall$Rotations" "from" "[I") (by decide +kernel)) rfl hin rfl (by decide +kernel) rfl rfl (Nat.le_of_ble_eq_true rfl) dX4_init_9 (fun H locs hP hD hS => ?_)
  have hP : va_P (dC, dI) vwCl (ws ++ [(h, .inr (4, [.null, .ref q1, .null, .null, .null, .int 0])), (q1, .inl (cI, 15, .inl (fun _ => 0)))]) H := hP
  have hD : va_D A (ws ++ [(h, .inr (4, [.null, .ref q1, .null, .null, .null, .int 0])), (q1, .inl (cI, 15, .inl (fun _ => 0)))]) := hD
  refine lv_aload_n hx hb dX4_init_12 rfl (lv_at hl 0 rfl) ?_
  refine lv_bipush (v := iN 15) hx hb dX4_init_13 (by decide) ?_
  refine x_newa (ws := ws) (tl := [(h, .inr (4, [.null, .ref q1, .null, .null, .null, .int 0])), (q1, .inl (cI, 15, .inl (fun _ => 0)))]) hx hb (hts (.arrayClass .int) (by decide +kernel)) hK 0 rfl hP hD hS hA (n := 15) (N' := 15) rfl (by decide) (Nat.le_trans (by decide) hrc.1) (Nat.le_trans (by decide) hrc.2) dX4_init_15 (fun q2 H hP hD hS => ?_)
  have hP : va_P (dC, dI) vwCl (ws ++ [(h, .inr (4, [.null, .ref q1, .null, .null, .null, .int 0])), (q1, .inl (cI, 15, .inl (fun _ => 0))), (q2, .inl (cI, 15, .inl (fun _ => 0)))]) H := hP
  have hD : va_D A (ws ++ [(h, .inr (4, [.null, .ref q1, .null, .null, .null, .int 0])), (q1, .inl (cI, 15, .inl (fun _ => 0))), (q2, .inl (cI, 15, .inl (fun _ => 0)))]) := hD
  refine x_putI (v := .ref q2) (ty := .array .int) (C := RX4) (T := TX4) (NF := 6) hx hb hts iX4 tyX4 tyX4_ok nmX4 hown hK (ws) ([(q1, .inl (cI, 15, .inl (fun _ => 0))), (q2, .inl (cI, 15, .inl (fun _ => 0)))]) hP hD hS rfl 2 (by decide) (hts (.fieldLink RX4 15 "MatchHall$Rotations" "to" "[I") (by decide +kernel)) rfl hin rfl (by decide +kernel) rfl rfl (Nat.le_of_ble_eq_true rfl) dX4_init_17 (fun H locs hP hD hS => ?_)
  have hP : va_P (dC, dI) vwCl (ws ++ [(h, .inr (4, [.null, .ref q1, .ref q2, .null, .null, .int 0])), (q1, .inl (cI, 15, .inl (fun _ => 0))), (q2, .inl (cI, 15, .inl (fun _ => 0)))]) H := hP
  have hD : va_D A (ws ++ [(h, .inr (4, [.null, .ref q1, .ref q2, .null, .null, .int 0])), (q1, .inl (cI, 15, .inl (fun _ => 0))), (q2, .inl (cI, 15, .inl (fun _ => 0)))]) := hD
  refine lv_aload_n hx hb dX4_init_20 rfl (lv_at hl 0 rfl) ?_
  refine lv_bipush (v := iN 15) hx hb dX4_init_21 (by decide) ?_
  refine x_newa (ws := ws) (tl := [(h, .inr (4, [.null, .ref q1, .ref q2, .null, .null, .int 0])), (q1, .inl (cI, 15, .inl (fun _ => 0))), (q2, .inl (cI, 15, .inl (fun _ => 0)))]) hx hb (hts (.arrayClass .int) (by decide +kernel)) hK 0 rfl hP hD hS hA (n := 15) (N' := 15) rfl (by decide) (Nat.le_trans (by decide) hrc.1) (Nat.le_trans (by decide) hrc.2) dX4_init_23 (fun q3 H hP hD hS => ?_)
  have hP : va_P (dC, dI) vwCl (ws ++ [(h, .inr (4, [.null, .ref q1, .ref q2, .null, .null, .int 0])), (q1, .inl (cI, 15, .inl (fun _ => 0))), (q2, .inl (cI, 15, .inl (fun _ => 0))), (q3, .inl (cI, 15, .inl (fun _ => 0)))]) H := hP
  have hD : va_D A (ws ++ [(h, .inr (4, [.null, .ref q1, .ref q2, .null, .null, .int 0])), (q1, .inl (cI, 15, .inl (fun _ => 0))), (q2, .inl (cI, 15, .inl (fun _ => 0))), (q3, .inl (cI, 15, .inl (fun _ => 0)))]) := hD
  refine x_putI (v := .ref q3) (ty := .array .int) (C := RX4) (T := TX4) (NF := 6) hx hb hts iX4 tyX4 tyX4_ok nmX4 hown hK (ws) ([(q1, .inl (cI, 15, .inl (fun _ => 0))), (q2, .inl (cI, 15, .inl (fun _ => 0))), (q3, .inl (cI, 15, .inl (fun _ => 0)))]) hP hD hS rfl 3 (by decide) (hts (.fieldLink RX4 18 "MatchHall$Rotations" "keys" "[I") (by decide +kernel)) rfl hin rfl (by decide +kernel) rfl rfl (Nat.le_of_ble_eq_true rfl) dX4_init_25 (fun H locs hP hD hS => ?_)
  have hP : va_P (dC, dI) vwCl (ws ++ [(h, .inr (4, [.null, .ref q1, .ref q2, .ref q3, .null, .int 0])), (q1, .inl (cI, 15, .inl (fun _ => 0))), (q2, .inl (cI, 15, .inl (fun _ => 0))), (q3, .inl (cI, 15, .inl (fun _ => 0)))]) H := hP
  have hD : va_D A (ws ++ [(h, .inr (4, [.null, .ref q1, .ref q2, .ref q3, .null, .int 0])), (q1, .inl (cI, 15, .inl (fun _ => 0))), (q2, .inl (cI, 15, .inl (fun _ => 0))), (q3, .inl (cI, 15, .inl (fun _ => 0)))]) := hD
  refine lv_aload_n hx hb dX4_init_28 rfl (lv_at hl 0 rfl) ?_
  refine lv_sipush (v := iN 216) hx hb dX4_init_29 (by decide) ?_
  refine x_newa (ws := ws) (tl := [(h, .inr (4, [.null, .ref q1, .ref q2, .ref q3, .null, .int 0])), (q1, .inl (cI, 15, .inl (fun _ => 0))), (q2, .inl (cI, 15, .inl (fun _ => 0))), (q3, .inl (cI, 15, .inl (fun _ => 0)))]) hx hb (hts (.arrayClass .int) (by decide +kernel)) hK 0 rfl hP hD hS hA (n := 216) (N' := 216) rfl (by decide) (Nat.le_trans (by decide) hrc.1) (Nat.le_trans (by decide) hrc.2) dX4_init_32 (fun q4 H hP hD hS => ?_)
  have hP : va_P (dC, dI) vwCl (ws ++ [(h, .inr (4, [.null, .ref q1, .ref q2, .ref q3, .null, .int 0])), (q1, .inl (cI, 15, .inl (fun _ => 0))), (q2, .inl (cI, 15, .inl (fun _ => 0))), (q3, .inl (cI, 15, .inl (fun _ => 0))), (q4, .inl (cI, 216, .inl (fun _ => 0)))]) H := hP
  have hD : va_D A (ws ++ [(h, .inr (4, [.null, .ref q1, .ref q2, .ref q3, .null, .int 0])), (q1, .inl (cI, 15, .inl (fun _ => 0))), (q2, .inl (cI, 15, .inl (fun _ => 0))), (q3, .inl (cI, 15, .inl (fun _ => 0))), (q4, .inl (cI, 216, .inl (fun _ => 0)))]) := hD
  refine x_putI (v := .ref q4) (ty := .array .int) (C := RX4) (T := TX4) (NF := 6) hx hb hts iX4 tyX4 tyX4_ok nmX4 hown hK (ws) ([(q1, .inl (cI, 15, .inl (fun _ => 0))), (q2, .inl (cI, 15, .inl (fun _ => 0))), (q3, .inl (cI, 15, .inl (fun _ => 0))), (q4, .inl (cI, 216, .inl (fun _ => 0)))]) hP hD hS rfl 4 (by decide) (hts (.fieldLink RX4 21 "MatchHall$Rotations" "doneIn" "[I") (by decide +kernel)) rfl hin rfl (by decide +kernel) rfl rfl (Nat.le_of_ble_eq_true rfl) dX4_init_34 (fun H locs hP hD hS => ?_)
  have hP : va_P (dC, dI) vwCl (ws ++ [(h, .inr (4, [.null, .ref q1, .ref q2, .ref q3, .ref q4, .int 0])), (q1, .inl (cI, 15, .inl (fun _ => 0))), (q2, .inl (cI, 15, .inl (fun _ => 0))), (q3, .inl (cI, 15, .inl (fun _ => 0))), (q4, .inl (cI, 216, .inl (fun _ => 0)))]) H := hP
  have hD : va_D A (ws ++ [(h, .inr (4, [.null, .ref q1, .ref q2, .ref q3, .ref q4, .int 0])), (q1, .inl (cI, 15, .inl (fun _ => 0))), (q2, .inl (cI, 15, .inl (fun _ => 0))), (q3, .inl (cI, 15, .inl (fun _ => 0))), (q4, .inl (cI, 216, .inl (fun _ => 0)))]) := hD
  refine lv_aload_n hx hb dX4_init_37 rfl (lv_at hl 0 rfl) ?_
  refine lv_aload_n hx hb dX4_init_38 rfl (lv_at hl 1 rfl) ?_
  refine x_putI (v := .ref p1) (ty := .object "MatchHall$Stables") (C := RX4) (T := TX4) (NF := 6) hx hb hts iX4 tyX4 tyX4_ok nmX4 hown hK (ws) ([(q1, .inl (cI, 15, .inl (fun _ => 0))), (q2, .inl (cI, 15, .inl (fun _ => 0))), (q3, .inl (cI, 15, .inl (fun _ => 0))), (q4, .inl (cI, 216, .inl (fun _ => 0)))]) hP hD hS rfl 0 (by decide) (hts (.fieldLink RX4 24 "MatchHall$Rotations" "stables" "LMatchHall$Stables;") (by decide +kernel)) rfl hin rfl (by decide +kernel) rfl rfl (Nat.le_of_ble_eq_true rfl) dX4_init_39 (fun H locs hP hD hS => ?_)
  have hP : va_P (dC, dI) vwCl (ws ++ [(h, .inr (4, [.ref p1, .ref q1, .ref q2, .ref q3, .ref q4, .int 0])), (q1, .inl (cI, 15, .inl (fun _ => 0))), (q2, .inl (cI, 15, .inl (fun _ => 0))), (q3, .inl (cI, 15, .inl (fun _ => 0))), (q4, .inl (cI, 216, .inl (fun _ => 0)))]) H := hP
  have hD : va_D A (ws ++ [(h, .inr (4, [.ref p1, .ref q1, .ref q2, .ref q3, .ref q4, .int 0])), (q1, .inl (cI, 15, .inl (fun _ => 0))), (q2, .inl (cI, 15, .inl (fun _ => 0))), (q3, .inl (cI, 15, .inl (fun _ => 0))), (q4, .inl (cI, 216, .inl (fun _ => 0)))]) := hD
  refine W.widen (k := 4) (n := 261) (by decide) (by decide) ?_
  exact W.vret hx hb hr (fun t ht hW => ⟨rfl, ⟨q1, q2, q3, q4, by rw [ht]; exact hP, hD⟩, hS.F ht⟩) hS.2.2 dX4_init_42 hlocks
set_option maxHeartbeats 4000000 in
set_option maxRecDepth 100000 in
theorem jX0 (l : Launch) (dC : Nat → ClassId) (dI : Nat → Nat → Nat) (cI cA : ClassId) (A : Nat → Prop) (ws : va_W) (h : Nat) (p1 : Nat) (p2 : Nat) (p3 : Nat) : Met l yX0_init wsX0_init ({ frames := 2, cells := 3, slots := 18, locals := 60 }) (va_Pc [.ref h, .ref p1, .ref p2, .ref p3] (preI dC dI cI cA A (ws ++ [(h, .inr (0, [.null, .null, .null, .null, .null, .null]))]))) (qI A (fun H => ∃ q1 : Nat, ∃ q2 : Nat, ∃ q3 : Nat, va_P (dC, dI) vwCl (ws ++ [(h, .inr (0, [.ref p1, .ref p2, .ref p3, .ref q1, .ref q2, .ref q3])), (q1, .inl (cI, 6, .inl (fun _ => 0))), (q2, .inl (cI, 6, .inl (fun _ => 0))), (q3, .inl (cI, 6, .inl (fun _ => 0)))]) H ∧ va_D A (ws ++ [(h, .inr (0, [.ref p1, .ref p2, .ref p3, .ref q1, .ref q2, .ref q3])), (q1, .inl (cI, 6, .inl (fun _ => 0))), (q2, .inl (cI, 6, .inl (fun _ => 0))), (q3, .inl (cI, 6, .inl (fun _ => 0)))]))) 3 18 A := by
  refine Met.ofW (cc := cX0_init) (maxL := 4) (ret := none) (by decide) rfl ?_
  intro p e s m args below meth c s₁ B hml hv
  obtain ⟨hargs, hP, hD, hK, hN, hM, hA⟩ := hv
  have hx := B.exec
  have hb := B.bytes
  have hr := B.returns
  have hts := atoms_spec (ws := wsX0_init) B.pre
  have hown : s.vm.findClass RX0 = some m.cls := findClass_of_methodNamed B.named
  have hlocks := B.notSynchronized
  have hin : meth.name = "<init>" := (name_of_methodNamed B.named B.method).1
  have hS : va_S A s.heap s.heap [] := va_S.rf
  have iX0 : ∀ w ∈ wsX00, w ∈ wsX0_init := by decide +kernel
  have hrm : 2 ≤ (headSpec wsX0_init ({ frames := 2, cells := 3, slots := 18, locals := 60 })).room.frames ∧ 60 ≤ (headSpec wsX0_init ({ frames := 2, cells := 3, slots := 18, locals := 60 })).room.locals := ⟨Nat.le_refl _, Nat.le_refl _⟩
  have hrc : 3 ≤ (headSpec wsX0_init ({ frames := 2, cells := 3, slots := 18, locals := 60 })).room.cells ∧ 18 ≤ (headSpec wsX0_init ({ frames := 2, cells := 3, slots := 18, locals := 60 })).room.slots := ⟨Nat.le_refl _, Nat.le_refl _⟩
  generalize (headSpec wsX0_init ({ frames := 2, cells := 3, slots := 18, locals := 60 })).room = RR at hrm hrc ⊢
  have hl := lv_entry ([.ref h, .ref p1, .ref p2, .ref p3]) (n := 4) (Nat.le_of_ble_eq_true rfl)
  rw [show entryFrame m args 4 = entryFrame m ([.ref h, .ref p1, .ref p2, .ref p3] : List Value).toArray 4 from by rw [hargs], lg_entry_eq]
  generalize (lg_sl ([.ref h, .ref p1, .ref p2, .ref p3]) ++ List.replicate (4 - (lg_sl ([.ref h, .ref p1, .ref p2, .ref p3])).length) Slot.unset).toArray = ls at hl ⊢
  have hl : lv_has ls 4 [(0, .ref h), (1, .ref p1), (2, .ref p2), (3, .ref p3)] := hl
  refine lv_aload_n hx hb dX0_init_0 rfl (lv_at hl 0 rfl) ?_
  refine W.objInit hx hb hown (hts (.methodLink RX0 3 objectInit) (by decide +kernel)) (hts (.instanceMethod objectInit) (by decide +kernel)) (hts (.code objectInit ⟨#[0xb1]⟩ 1 none) (by decide +kernel)) rfl (by rw [hml]; exact hl.1) rfl dX0_init_1 (Nat.le_trans (by decide) hrm.1) (Nat.le_trans (Nat.le_of_ble_eq_true rfl) hrm.2) ?_
  refine W.eq (g2 := F0 m 4 ls []) rfl ?_
  refine lv_aload_n hx hb dX0_init_4 rfl (lv_at hl 0 rfl) ?_
  refine lv_bipush (v := iN 6) hx hb dX0_init_5 (by decide) ?_
  refine x_newa (ws := ws) (tl := [(h, .inr (0, [.null, .null, .null, .null, .null, .null]))]) hx hb (hts (.arrayClass .int) (by decide +kernel)) hK 0 rfl hP hD hS hA (n := 6) (N' := 6) rfl (by decide) (Nat.le_trans (by decide) hrc.1) (Nat.le_trans (by decide) hrc.2) dX0_init_7 (fun q1 H hP hD hS => ?_)
  have hP : va_P (dC, dI) vwCl (ws ++ [(h, .inr (0, [.null, .null, .null, .null, .null, .null])), (q1, .inl (cI, 6, .inl (fun _ => 0)))]) H := hP
  have hD : va_D A (ws ++ [(h, .inr (0, [.null, .null, .null, .null, .null, .null])), (q1, .inl (cI, 6, .inl (fun _ => 0)))]) := hD
  refine x_putI (v := .ref q1) (ty := .array .int) (C := RX0) (T := TX0) (NF := 6) hx hb hts iX0 tyX0 tyX0_ok nmX0 hown hK (ws) ([(q1, .inl (cI, 6, .inl (fun _ => 0)))]) hP hD hS rfl 3 (by decide) (hts (.fieldLink RX0 9 "MatchHall$Finder" "asked" "[I") (by decide +kernel)) rfl hin rfl (by decide +kernel) rfl rfl (Nat.le_of_ble_eq_true rfl) dX0_init_9 (fun H locs hP hD hS => ?_)
  have hP : va_P (dC, dI) vwCl (ws ++ [(h, .inr (0, [.null, .null, .null, .ref q1, .null, .null])), (q1, .inl (cI, 6, .inl (fun _ => 0)))]) H := hP
  have hD : va_D A (ws ++ [(h, .inr (0, [.null, .null, .null, .ref q1, .null, .null])), (q1, .inl (cI, 6, .inl (fun _ => 0)))]) := hD
  refine lv_aload_n hx hb dX0_init_12 rfl (lv_at hl 0 rfl) ?_
  refine lv_bipush (v := iN 6) hx hb dX0_init_13 (by decide) ?_
  refine x_newa (ws := ws) (tl := [(h, .inr (0, [.null, .null, .null, .ref q1, .null, .null])), (q1, .inl (cI, 6, .inl (fun _ => 0)))]) hx hb (hts (.arrayClass .int) (by decide +kernel)) hK 0 rfl hP hD hS hA (n := 6) (N' := 6) rfl (by decide) (Nat.le_trans (by decide) hrc.1) (Nat.le_trans (by decide) hrc.2) dX0_init_15 (fun q2 H hP hD hS => ?_)
  have hP : va_P (dC, dI) vwCl (ws ++ [(h, .inr (0, [.null, .null, .null, .ref q1, .null, .null])), (q1, .inl (cI, 6, .inl (fun _ => 0))), (q2, .inl (cI, 6, .inl (fun _ => 0)))]) H := hP
  have hD : va_D A (ws ++ [(h, .inr (0, [.null, .null, .null, .ref q1, .null, .null])), (q1, .inl (cI, 6, .inl (fun _ => 0))), (q2, .inl (cI, 6, .inl (fun _ => 0)))]) := hD
  refine x_putI (v := .ref q2) (ty := .array .int) (C := RX0) (T := TX0) (NF := 6) hx hb hts iX0 tyX0 tyX0_ok nmX0 hown hK (ws) ([(q1, .inl (cI, 6, .inl (fun _ => 0))), (q2, .inl (cI, 6, .inl (fun _ => 0)))]) hP hD hS rfl 4 (by decide) (hts (.fieldLink RX0 15 "MatchHall$Finder" "bestPlace" "[I") (by decide +kernel)) rfl hin rfl (by decide +kernel) rfl rfl (Nat.le_of_ble_eq_true rfl) dX0_init_17 (fun H locs hP hD hS => ?_)
  have hP : va_P (dC, dI) vwCl (ws ++ [(h, .inr (0, [.null, .null, .null, .ref q1, .ref q2, .null])), (q1, .inl (cI, 6, .inl (fun _ => 0))), (q2, .inl (cI, 6, .inl (fun _ => 0)))]) H := hP
  have hD : va_D A (ws ++ [(h, .inr (0, [.null, .null, .null, .ref q1, .ref q2, .null])), (q1, .inl (cI, 6, .inl (fun _ => 0))), (q2, .inl (cI, 6, .inl (fun _ => 0)))]) := hD
  refine lv_aload_n hx hb dX0_init_20 rfl (lv_at hl 0 rfl) ?_
  refine lv_bipush (v := iN 6) hx hb dX0_init_21 (by decide) ?_
  refine x_newa (ws := ws) (tl := [(h, .inr (0, [.null, .null, .null, .ref q1, .ref q2, .null])), (q1, .inl (cI, 6, .inl (fun _ => 0))), (q2, .inl (cI, 6, .inl (fun _ => 0)))]) hx hb (hts (.arrayClass .int) (by decide +kernel)) hK 0 rfl hP hD hS hA (n := 6) (N' := 6) rfl (by decide) (Nat.le_trans (by decide) hrc.1) (Nat.le_trans (by decide) hrc.2) dX0_init_23 (fun q3 H hP hD hS => ?_)
  have hP : va_P (dC, dI) vwCl (ws ++ [(h, .inr (0, [.null, .null, .null, .ref q1, .ref q2, .null])), (q1, .inl (cI, 6, .inl (fun _ => 0))), (q2, .inl (cI, 6, .inl (fun _ => 0))), (q3, .inl (cI, 6, .inl (fun _ => 0)))]) H := hP
  have hD : va_D A (ws ++ [(h, .inr (0, [.null, .null, .null, .ref q1, .ref q2, .null])), (q1, .inl (cI, 6, .inl (fun _ => 0))), (q2, .inl (cI, 6, .inl (fun _ => 0))), (q3, .inl (cI, 6, .inl (fun _ => 0)))]) := hD
  refine x_putI (v := .ref q3) (ty := .array .int) (C := RX0) (T := TX0) (NF := 6) hx hb hts iX0 tyX0 tyX0_ok nmX0 hown hK (ws) ([(q1, .inl (cI, 6, .inl (fun _ => 0))), (q2, .inl (cI, 6, .inl (fun _ => 0))), (q3, .inl (cI, 6, .inl (fun _ => 0)))]) hP hD hS rfl 5 (by decide) (hts (.fieldLink RX0 18 "MatchHall$Finder" "toFill" "[I") (by decide +kernel)) rfl hin rfl (by decide +kernel) rfl rfl (Nat.le_of_ble_eq_true rfl) dX0_init_25 (fun H locs hP hD hS => ?_)
  have hP : va_P (dC, dI) vwCl (ws ++ [(h, .inr (0, [.null, .null, .null, .ref q1, .ref q2, .ref q3])), (q1, .inl (cI, 6, .inl (fun _ => 0))), (q2, .inl (cI, 6, .inl (fun _ => 0))), (q3, .inl (cI, 6, .inl (fun _ => 0)))]) H := hP
  have hD : va_D A (ws ++ [(h, .inr (0, [.null, .null, .null, .ref q1, .ref q2, .ref q3])), (q1, .inl (cI, 6, .inl (fun _ => 0))), (q2, .inl (cI, 6, .inl (fun _ => 0))), (q3, .inl (cI, 6, .inl (fun _ => 0)))]) := hD
  refine lv_aload_n hx hb dX0_init_28 rfl (lv_at hl 0 rfl) ?_
  refine lv_aload_n hx hb dX0_init_29 rfl (lv_at hl 1 rfl) ?_
  refine x_putI (v := .ref p1) (ty := .object "MatchHall$Hall") (C := RX0) (T := TX0) (NF := 6) hx hb hts iX0 tyX0 tyX0_ok nmX0 hown hK (ws) ([(q1, .inl (cI, 6, .inl (fun _ => 0))), (q2, .inl (cI, 6, .inl (fun _ => 0))), (q3, .inl (cI, 6, .inl (fun _ => 0)))]) hP hD hS rfl 0 (by decide) (hts (.fieldLink RX0 21 "MatchHall$Finder" "hall" "LMatchHall$Hall;") (by decide +kernel)) rfl hin rfl (by decide +kernel) rfl rfl (Nat.le_of_ble_eq_true rfl) dX0_init_30 (fun H locs hP hD hS => ?_)
  have hP : va_P (dC, dI) vwCl (ws ++ [(h, .inr (0, [.ref p1, .null, .null, .ref q1, .ref q2, .ref q3])), (q1, .inl (cI, 6, .inl (fun _ => 0))), (q2, .inl (cI, 6, .inl (fun _ => 0))), (q3, .inl (cI, 6, .inl (fun _ => 0)))]) H := hP
  have hD : va_D A (ws ++ [(h, .inr (0, [.ref p1, .null, .null, .ref q1, .ref q2, .ref q3])), (q1, .inl (cI, 6, .inl (fun _ => 0))), (q2, .inl (cI, 6, .inl (fun _ => 0))), (q3, .inl (cI, 6, .inl (fun _ => 0)))]) := hD
  refine lv_aload_n hx hb dX0_init_33 rfl (lv_at hl 0 rfl) ?_
  refine lv_aload_n hx hb dX0_init_34 rfl (lv_at hl 2 rfl) ?_
  refine x_putI (v := .ref p2) (ty := .object "MatchHall$Stables") (C := RX0) (T := TX0) (NF := 6) hx hb hts iX0 tyX0 tyX0_ok nmX0 hown hK (ws) ([(q1, .inl (cI, 6, .inl (fun _ => 0))), (q2, .inl (cI, 6, .inl (fun _ => 0))), (q3, .inl (cI, 6, .inl (fun _ => 0)))]) hP hD hS rfl 1 (by decide) (hts (.fieldLink RX0 25 "MatchHall$Finder" "stables" "LMatchHall$Stables;") (by decide +kernel)) rfl hin rfl (by decide +kernel) rfl rfl (Nat.le_of_ble_eq_true rfl) dX0_init_35 (fun H locs hP hD hS => ?_)
  have hP : va_P (dC, dI) vwCl (ws ++ [(h, .inr (0, [.ref p1, .ref p2, .null, .ref q1, .ref q2, .ref q3])), (q1, .inl (cI, 6, .inl (fun _ => 0))), (q2, .inl (cI, 6, .inl (fun _ => 0))), (q3, .inl (cI, 6, .inl (fun _ => 0)))]) H := hP
  have hD : va_D A (ws ++ [(h, .inr (0, [.ref p1, .ref p2, .null, .ref q1, .ref q2, .ref q3])), (q1, .inl (cI, 6, .inl (fun _ => 0))), (q2, .inl (cI, 6, .inl (fun _ => 0))), (q3, .inl (cI, 6, .inl (fun _ => 0)))]) := hD
  refine lv_aload_n hx hb dX0_init_38 rfl (lv_at hl 0 rfl) ?_
  refine lv_aload_n hx hb dX0_init_39 rfl (lv_at hl 3 rfl) ?_
  refine x_putI (v := .ref p3) (ty := .object "MatchHall$Matching") (C := RX0) (T := TX0) (NF := 6) hx hb hts iX0 tyX0 tyX0_ok nmX0 hown hK (ws) ([(q1, .inl (cI, 6, .inl (fun _ => 0))), (q2, .inl (cI, 6, .inl (fun _ => 0))), (q3, .inl (cI, 6, .inl (fun _ => 0)))]) hP hD hS rfl 2 (by decide) (hts (.fieldLink RX0 29 "MatchHall$Finder" "trial" "LMatchHall$Matching;") (by decide +kernel)) rfl hin rfl (by decide +kernel) rfl rfl (Nat.le_of_ble_eq_true rfl) dX0_init_40 (fun H locs hP hD hS => ?_)
  have hP : va_P (dC, dI) vwCl (ws ++ [(h, .inr (0, [.ref p1, .ref p2, .ref p3, .ref q1, .ref q2, .ref q3])), (q1, .inl (cI, 6, .inl (fun _ => 0))), (q2, .inl (cI, 6, .inl (fun _ => 0))), (q3, .inl (cI, 6, .inl (fun _ => 0)))]) H := hP
  have hD : va_D A (ws ++ [(h, .inr (0, [.ref p1, .ref p2, .ref p3, .ref q1, .ref q2, .ref q3])), (q1, .inl (cI, 6, .inl (fun _ => 0))), (q2, .inl (cI, 6, .inl (fun _ => 0))), (q3, .inl (cI, 6, .inl (fun _ => 0)))]) := hD
  refine W.widen (k := 3) (n := 18) (by decide) (by decide) ?_
  exact W.vret hx hb hr (fun t ht hW => ⟨rfl, ⟨q1, q2, q3, by rw [ht]; exact hP, hD⟩, hS.F ht⟩) hS.2.2 dX0_init_43 hlocks
theorem cH_cong {N : Nat} (hN : N = 21 ∨ N = 23 ∨ N = 25 ∨ N = 28 ∨ N = 33 ∨ N = 37) {e0 : va_E} {cI cA : ClassId} {a a' : Nat → Nat} (h : ∀ j, j < N → a' j = a j) (k : Nat) (hk : k < N) (f : Int → Int) : cH e0 cI cA a' k f = cH e0 cI cA a k f := by
  have g4 : 21 ≤ N := by omega
  have hk9 : k = 0 ∨ k = 1 ∨ k = 2 ∨ k = 3 ∨ k = 4 ∨ k = 5 ∨ k = 6 ∨ k = 7 ∨ k = 8 ∨ k = 9 ∨ k = 10 ∨ k = 11 ∨ k = 12 ∨ k = 13 ∨ k = 14 ∨ k = 15 ∨ k = 16 ∨ k = 17 ∨ k = 18 ∨ k = 19 ∨ k = 20 ∨ k = 21 ∨ k = 22 ∨ k = 23 ∨ k = 24 ∨ k = 25 ∨ k = 26 ∨ k = 27 ∨ k = 28 ∨ k = 29 ∨ k = 30 ∨ k = 31 ∨ k = 32 ∨ k = 33 ∨ k = 34 ∨ k = 35 ∨ k = 36 := by omega
  rcases hk9 with rfl | rfl | rfl | rfl | rfl | rfl | rfl | rfl | rfl | rfl | rfl | rfl | rfl | rfl | rfl | rfl | rfl | rfl | rfl | rfl | rfl | rfl | rfl | rfl | rfl | rfl | rfl | rfl | rfl | rfl | rfl | rfl | rfl | rfl | rfl | rfl | rfl
  · rfl
  · rw [cH_1, cH_1, h 2 (by omega), h 11 (by omega), h 20 (by omega)]
  · rw [cH_2, cH_2, h 3 (by omega), h 10 (by omega)]
  · rw [cH_3, cH_3]
    have : (fun j : Nat => if j < 6 then some (a' (4 + j)) else none) = fun j : Nat => if j < 6 then some (a (4 + j)) else none := by
      funext j
      by_cases z : j < 6
      · rw [if_pos z, if_pos z, h _ (by omega)]
      · rw [if_neg z, if_neg z]
    rw [this]
  · rfl
  · rfl
  · rfl
  · rfl
  · rfl
  · rfl
  · rfl
  · rw [cH_11, cH_11, h 12 (by omega), h 19 (by omega)]
  · rw [cH_12, cH_12]
    have : (fun j : Nat => if j < 6 then some (a' (13 + j)) else none) = fun j : Nat => if j < 6 then some (a (13 + j)) else none := by
      funext j
      by_cases z : j < 6
      · rw [if_pos z, if_pos z, h _ (by omega)]
      · rw [if_neg z, if_neg z]
    rw [this]
  · rfl
  · rfl
  · rfl
  · rfl
  · rfl
  · rfl
  · rfl
  · rfl
  · rw [cH_21, cH_21, h 1 (by omega), h 22 (by omega)]
  · rfl
  · rw [cH_23, cH_23, h 1 (by omega), h 24 (by omega)]
  · rfl
  · rw [cH_25, cH_25, h 1 (by omega), h 26 (by omega), h 27 (by omega)]
  · rfl
  · rfl
  · rw [cH_28, cH_28, h 25 (by omega), h 29 (by omega), h 30 (by omega), h 31 (by omega), h 32 (by omega)]
  · rfl
  · rfl
  · rfl
  · rfl
  · rw [cH_33, cH_33, h 1 (by omega), h 25 (by omega), h 23 (by omega), h 34 (by omega), h 35 (by omega), h 36 (by omega)]
  · rfl
  · rfl
  · rfl
