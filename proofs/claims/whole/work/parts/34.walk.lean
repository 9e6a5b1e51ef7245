def fX5_find_25_21_L2 (σ : Mem) (ex0 : Int → Option Int) : Nat → Int → Option Int
  | 0, _ => none
  | n0 + 1, v1 => if v1 < (σ 25 3) then (fX5_isSame_25_21 σ v1).bind fun v2 => if v2 = 0 then if rng (v1 + 1) then fX5_find_25_21_L2 σ ex0 n0 (v1 + 1) else none else some v1 else ex0 v1
def fX5_find_25_21 (σ : Mem) : Option Int := fX5_find_25_21_L2 σ (fun v6 => some (-1)) FU 0
set_option maxHeartbeats 4000000 in
set_option maxRecDepth 100000 in
theorem kX5_find_25_21 (l : Launch) (dC : Nat → ClassId) (dI : Nat → Nat → Nat) (cI : ClassId) (cA : ClassId) (a : Nat → Nat) (σ : Mem) (r : Int) (hf : fX5_find_25_21 σ  = some r) (hR : Rg σ) : Met l yX5_find wsX5_find ({ frames := 2, cells := 0, slots := 0, locals := 45 }) (va_Pc [.ref (a 25), .ref (a 21)] (preC dC dI cI cA a σ)) (qP r) 0 0 (fun _ => False) := by
  refine Met.ofW (cc := cX5_find) (maxL := 3) (ret := (some .int)) (by decide) rfl ?_
  intro p e s m args below meth c s₁ B hml hv
  obtain ⟨hargs, hP, hK, hN⟩ := hv
  have hx := B.exec
  have hb := B.bytes
  have hr := B.returns
  have hts := atoms_spec (ws := wsX5_find) B.pre
  have hown : s.vm.findClass RX5 = some m.cls := findClass_of_methodNamed B.named
  have hlocks := B.notSynchronized
  have iX5 : ∀ w ∈ wsX50, w ∈ wsX5_find := by decide +kernel
  have fl22 := hts (.fieldLink RX5 22 "MatchHall$Stables" "size" "I") (by decide +kernel)
  have hrm : 2 ≤ (headSpec wsX5_find ({ frames := 2, cells := 0, slots := 0, locals := 45 })).room.frames ∧ 45 ≤ (headSpec wsX5_find ({ frames := 2, cells := 0, slots := 0, locals := 45 })).room.locals := ⟨Nat.le_refl _, Nat.le_refl _⟩
  generalize (headSpec wsX5_find ({ frames := 2, cells := 0, slots := 0, locals := 45 })).room = RR at hrm ⊢
  have hl := lv_entry ([.ref (a 25), .ref (a 21)]) (n := 3) (Nat.le_of_ble_eq_true rfl)
  rw [show entryFrame m args 3 = entryFrame m ([.ref (a 25), .ref (a 21)] : List Value).toArray 3 from by rw [hargs], lg_entry_eq]
  generalize (lg_sl ([.ref (a 25), .ref (a 21)]) ++ List.replicate (3 - (lg_sl ([.ref (a 25), .ref (a 21)])).length) Slot.unset).toArray = ls at hl ⊢
  have hl : lv_has ls 3 [(0, .ref (a 25)), (1, .ref (a 21))] := hl
  generalize hQQ : MQ below (qP r) args s 0 0 (fun _ => False) = QQ
  refine lv_iconst (v := iN 0) hx hb dX5_find_0 rfl ?_
  refine lv_istore_n (lv' := [(2, .int (iN 0)), (0, .ref (a 25)), (1, .ref (a 21))]) hx hb dX5_find_1 rfl hl (by decide) rfl (fun ls hl => ?_)
  have L_fX5_find_25_21_L2 : ∀ (EX0 : Int → Option Int), (∀ (v1 : Int), rng v1 → EX0 v1 = some r → ∀ ls, lv_has ls 3 [(0, .ref (a 25)), (1, .ref (a 21)), (2, .int (iN v1))] → W p l e RR s m args below meth c s.heap [] 0 0 QQ (F0 m 27 ls [])) → ∀ n0 : Nat, ∀ (v1 : Int), rng v1 → fX5_find_25_21_L2 σ EX0 n0 v1 = some r → ∀ ls, lv_has ls 3 [(0, .ref (a 25)), (1, .ref (a 21)), (2, .int (iN v1))] → W p l e RR s m args below meth c s.heap [] 0 0 QQ (F0 m 2 ls []) := by
    intro EX0 hEX0 n0
    induction n0 with
    | zero => intro _ _ hf; cases hf
    | succ n0 ih0 =>
      intro v1 rv1 hf ls hl
      rw [fX5_find_25_21_L2] at hf
      refine lv_iload_n hx hb dX5_find_2 rfl (lv_at hl 2 rfl) ?_
      refine lv_aload_n hx hb dX5_find_3 rfl (lv_at hl 0 rfl) ?_
      refine x_get (C := RX5) (T := TX5) (NF := 4) (v := .int (iN (σ 25 3))) hx hb hts iX5 hown hK hP 25 (by decide) (cE_25 cI cA a (_)) rfl 3 (by decide) fl22 rfl dX5_find_4 ?_
      refine x_icmp_ge (tgt := 27) hx hb rv1 (hR 25 3) dX5_find_7 (by decide) (fun c5 => ?_) (fun c5 => ?_)
      · replace hf := (if_neg c5).symm.trans hf
        exact hEX0 _ rv1 hf _ (lv_sub hl [0, 1, 2] rfl)
      · replace hf := (if_pos c5).symm.trans hf
        refine lv_aload_n hx hb dX5_find_10 rfl (lv_at hl 0 rfl) ?_
        refine lv_iload_n hx hb dX5_find_11 rfl (lv_at hl 2 rfl) ?_
        refine lv_aload_n hx hb dX5_find_12 rfl (lv_at hl 1 rfl) ?_
        obtain ⟨v2, hv2, hf⟩ := bd hf
        refine x_callP (va_runV (As := [.int (iN v1), .ref (a 21)]) (rest := []) ⟨hx, hb, hml, hown, hts⟩ (kX5_isSame_25_21 l dC dI cI cA a σ v1 v2 hv2 hR rv1) (cwV 2 hts gX5_find_X5_isSame rfl rfl rfl hX5_isSame_d ⟨Nat.le_trans (by decide) hrm.1, Nat.le_trans (by decide) hrm.2⟩) (pvC 25 (by decide) (cE_25 cI cA a (_)) rfl hP hK hN) rfl rfl hl.1 rfl (lv_room (Nat.le_of_ble_eq_true rfl)) dX5_find_13 ⟨Nat.zero_le _, Nat.zero_le _⟩) (fun rv2 => ?_)
        refine x_if_eq (tgt := 21) hx hb rv2 dX5_find_16 (by decide) (fun c4 => ?_) (fun c4 => ?_)
        · replace hf := (if_pos c4).symm.trans hf
          obtain ⟨g3, hf⟩ := gd hf
          refine lv_iinc (v := iN (v1 + 1)) (lv' := [(2, .int (iN (v1 + 1))), (0, .ref (a 25)), (1, .ref (a 21))]) hx hb dX5_find_21 hl (k := 2) rfl (iN_add v1 1) (by decide) rfl (fun ls hl => ?_)
          refine lv_goto (tgt := 2) hx hb dX5_find_24 (by decide) ?_
          exact ih0 _ g3 hf _ (lv_sub hl [1, 2, 0] rfl)
        · replace hf := (if_neg c4).symm.trans hf
          refine lv_iload_n hx hb dX5_find_19 rfl (lv_at hl 2 rfl) ?_
          rw [← hQQ]
          exact x_iret hx hb hr (Option.some.inj hf) rv1 hlocks dX5_find_20
  refine L_fX5_find_25_21_L2 _ (fun v6 rv6 hf ls hl => ?_) _ _ (by decide) hf _ (lv_sub hl [1, 2, 0] rfl)
  refine lv_iconst (v := iN (-1)) hx hb dX5_find_27 rfl ?_
  rw [← hQQ]
  exact x_iret hx hb hr (Option.some.inj hf) (by decide) hlocks dX5_find_28
def fX6_which_0 (σ : Mem) : Option Int := (fX5_find_25_21 σ ).bind fun v1 => some v1
set_option maxHeartbeats 4000000 in
set_option maxRecDepth 100000 in
theorem kX6_which_0 (l : Launch) (dC : Nat → ClassId) (dI : Nat → Nat → Nat) (cI : ClassId) (cA : ClassId) (a : Nat → Nat) (σ : Mem) (r : Int) (hf : fX6_which_0 σ  = some r) (hR : Rg σ) : Met l yX6_which wsX6_which ({ frames := 3, cells := 0, slots := 0, locals := 67 }) (va_Pc [.ref (a 0)] (preC dC dI cI cA a σ)) (qP r) 0 0 (fun _ => False) := by
  refine Met.ofW (cc := cX6_which) (maxL := 1) (ret := (some .int)) (by decide) rfl ?_
  intro p e s m args below meth c s₁ B hml hv
  obtain ⟨hargs, hP, hK, hN⟩ := hv
  have hx := B.exec
  have hb := B.bytes
  have hr := B.returns
  have hts := atoms_spec (ws := wsX6_which) B.pre
  have hown : s.vm.findClass RX6 = some m.cls := findClass_of_methodNamed B.named
  have hlocks := B.notSynchronized
  have iX6 : ∀ w ∈ wsX60, w ∈ wsX6_which := by decide +kernel
  have fl21 := hts (.fieldLink RX6 21 "MatchHall" "told" "LMatchHall$Matching;") (by decide +kernel)
  have fl31 := hts (.fieldLink RX6 31 "MatchHall" "stables" "LMatchHall$Stables;") (by decide +kernel)
  have hrm : 3 ≤ (headSpec wsX6_which ({ frames := 3, cells := 0, slots := 0, locals := 67 })).room.frames ∧ 67 ≤ (headSpec wsX6_which ({ frames := 3, cells := 0, slots := 0, locals := 67 })).room.locals := ⟨Nat.le_refl _, Nat.le_refl _⟩
  generalize (headSpec wsX6_which ({ frames := 3, cells := 0, slots := 0, locals := 67 })).room = RR at hrm ⊢
  have hl := lv_entry ([.ref (a 0)]) (n := 1) (Nat.le_of_ble_eq_true rfl)
  rw [show entryFrame m args 1 = entryFrame m ([.ref (a 0)] : List Value).toArray 1 from by rw [hargs], lg_entry_eq]
  generalize (lg_sl ([.ref (a 0)]) ++ List.replicate (1 - (lg_sl ([.ref (a 0)])).length) Slot.unset).toArray = ls at hl ⊢
  have hl : lv_has ls 1 [(0, .ref (a 0))] := hl
  generalize hQQ : MQ below (qP r) args s 0 0 (fun _ => False) = QQ
  refine lv_aload_n hx hb dX6_which_0 rfl (lv_at hl 0 rfl) ?_
  refine x_get (C := RX6) (T := TX6) (NF := 6) (v := .ref (a 25)) hx hb hts iX6 hown hK hP 0 (by decide) (cE_0 cI cA a (_)) rfl 3 (by decide) fl31 rfl dX6_which_1 ?_
  refine lv_aload_n hx hb dX6_which_4 rfl (lv_at hl 0 rfl) ?_
  refine x_get (C := RX6) (T := TX6) (NF := 6) (v := .ref (a 21)) hx hb hts iX6 hown hK hP 0 (by decide) (cE_0 cI cA a (_)) rfl 1 (by decide) fl21 rfl dX6_which_5 ?_
  obtain ⟨v1, hv1, hf⟩ := bd hf
  refine x_callP (va_runV (As := [.ref (a 21)]) (rest := []) ⟨hx, hb, hml, hown, hts⟩ (kX5_find_25_21 l dC dI cI cA a σ  v1 hv1 hR ) (cwV 1 hts gX6_which_X5_find rfl rfl rfl hX5_find_d ⟨Nat.le_trans (by decide) hrm.1, Nat.le_trans (by decide) hrm.2⟩) (pvC 25 (by decide) (cE_25 cI cA a (_)) rfl hP hK hN) rfl rfl hl.1 rfl (lv_room (Nat.le_of_ble_eq_true rfl)) dX6_which_8 ⟨Nat.zero_le _, Nat.zero_le _⟩) (fun rv1 => ?_)
  rw [← hQQ]
  exact x_iret hx hb hr (Option.some.inj hf) rv1 hlocks dX6_which_11
def fX5_copyTo_25_23 (σ : Mem) (x2 : Int) : Option (Int × Mem) := if rng (x2 * 6) then if (0 : Int) ≤ (x2 * 6) ∧ (0 : Int) ≤ 0 ∧ (0 : Int) ≤ 6 ∧ ((x2 * 6) : Int) + 6 ≤ 1296 ∧ (0 : Int) + 6 ≤ 6 then nx (mcpy σ 26 24 (x2 * 6) 0 6) fun σ3 => some (0, σ3) else none else none
set_option maxHeartbeats 4000000 in
set_option maxRecDepth 100000 in
theorem kX5_copyTo_25_23 (l : Launch) (dC : Nat → ClassId) (dI : Nat → Nat → Nat) (cI : ClassId) (cA : ClassId) (a : Nat → Nat) (hi : ∀ i j, i < 37 → j < 37 → a i = a j → i = j) (σ : Mem) (x2 : Int) (r : (Int × Mem)) (hf : fX5_copyTo_25_23 σ x2 = some r) (hR : Rg σ) (rx2 : rng x2) : Met l yX5_copyTo wsX5_copyTo ({ frames := 1, cells := 0, slots := 0, locals := 64 }) (va_Pc [.ref (a 25), .ref (a 23), .int (iN x2)] (preC dC dI cI cA a σ)) (qMv (dC, dI) (gw 37 a (cE cI cA a)) (gA 37 a) r) 0 0 (gA 37 a) := by
  refine Met.ofW (cc := cX5_copyTo) (maxL := 3) (ret := none) (by decide) rfl ?_
  intro p e s m args below meth c s₁ B hml hv
  obtain ⟨hargs, hP, hK, hN⟩ := hv
  have hx := B.exec
  have hb := B.bytes
  have hr := B.returns
  have hts := atoms_spec (ws := wsX5_copyTo) B.pre
  have hown : s.vm.findClass RX5 = some m.cls := findClass_of_methodNamed B.named
  have hlocks := B.notSynchronized
  have hS : va_S (gA 37 a) s.heap s.heap [] := va_S.rf
  have iX3 : ∀ w ∈ wsX30, w ∈ wsX5_copyTo := by decide +kernel
  have iX5 : ∀ w ∈ wsX50, w ∈ wsX5_copyTo := by decide +kernel
  have fl9 := hts (.fieldLink RX5 9 "MatchHall$Stables" "hospitals" "[I") (by decide +kernel)
  have fn26 := va_Nw.use (A := args) rfl (hN (.fieldLinkNest RX5 26 "MatchHall$Matching" "hospitalOf" "[I" "MatchHall") (by decide +kernel))
  have hrm : 1 ≤ (headSpec wsX5_copyTo ({ frames := 1, cells := 0, slots := 0, locals := 64 })).room.frames ∧ 64 ≤ (headSpec wsX5_copyTo ({ frames := 1, cells := 0, slots := 0, locals := 64 })).room.locals := ⟨Nat.le_refl _, Nat.le_refl _⟩
  generalize (headSpec wsX5_copyTo ({ frames := 1, cells := 0, slots := 0, locals := 64 })).room = RR at hrm ⊢
  have hl := lv_entry ([.ref (a 25), .ref (a 23), .int (iN x2)]) (n := 3) (Nat.le_of_ble_eq_true rfl)
  rw [show entryFrame m args 3 = entryFrame m ([.ref (a 25), .ref (a 23), .int (iN x2)] : List Value).toArray 3 from by rw [hargs], lg_entry_eq]
  generalize (lg_sl ([.ref (a 25), .ref (a 23), .int (iN x2)]) ++ List.replicate (3 - (lg_sl ([.ref (a 25), .ref (a 23), .int (iN x2)])).length) Slot.unset).toArray = ls at hl ⊢
  have hl : lv_has ls 3 [(0, .ref (a 25)), (1, .ref (a 23)), (2, .int (iN x2))] := hl
  generalize hQQ : MQ below (qMv (dC, dI) (gw 37 a (cE cI cA a)) (gA 37 a) r) args s 0 0 (gA 37 a) = QQ
  refine lv_aload_n hx hb dX5_copyTo_0 rfl (lv_at hl 0 rfl) ?_
  refine x_get (C := RX5) (T := TX5) (NF := 4) (v := .ref (a 26)) hx hb hts iX5 hown hK hP 25 (by decide) (cE_25 cI cA a (_)) rfl 1 (by decide) fl9 rfl dX5_copyTo_1 ?_
  refine lv_iload_n hx hb dX5_copyTo_4 rfl (lv_at hl 2 rfl) ?_
  refine lv_bipush (v := iN 6) hx hb dX5_copyTo_5 (by decide) ?_
  obtain ⟨g1, hf⟩ := gd hf
  refine x_imul hx hb dX5_copyTo_7 ?_
  refine lv_aload_n hx hb dX5_copyTo_8 rfl (lv_at hl 1 rfl) ?_
  refine x_getN (C := RX3) (T := TX3) (NF := 2) (v := .ref (a 24)) hx hb hts iX3 hown hK hP 23 (by decide) (cE_23 cI cA a (_)) rfl 1 (by decide) fn26 rfl dX5_copyTo_9 ?_
  refine lv_iconst (v := iN 0) hx hb dX5_copyTo_12 rfl ?_
  refine lv_bipush (v := iN 6) hx hb dX5_copyTo_13 (by decide) ?_
  obtain ⟨g2, hf⟩ := gd hf
  obtain ⟨σ3, hσ3, hf⟩ := nxe hf
  refine x_copy hx hb (hml.trans hl.1.symm) hown (hts (.methodLink RX5 31 arraycopyName) (by decide +kernel)) (hts (.native arraycopyName) (by decide +kernel)) (hts (.static arraycopyName) (by decide +kernel)) (hts (.initialized "java/lang/System") (by decide +kernel)) hi hK hP hS 26 24 0 (by decide) (by decide) (cE_26 cI cA a (_)) (cE_24 cI cA a) (by decide) (by decide) rfl g2 (Nat.le_trans (by decide) hrm.1) (Nat.le_trans (Nat.le_of_ble_eq_true rfl) hrm.2) dX5_copyTo_15 (fun H locs hP hS => ?_)
  rw [← hσ3] at hP
  have hRσ3 : Rg σ3 := by rw [hσ3]; exact Rg_cpy hR
  rw [← hQQ]
  exact x_vretM hx hb hr (Option.some.inj hf) hRσ3 hP hS hlocks dX5_copyTo_18
def fX3_countAt_23_L4 (σ : Mem) (x1 : Int) (ex0 : Int → Int → Option Int) : Nat → Int → Int → Option Int
  | 0, _, _ => none
  | n0 + 1, v1, v2 => if v2 < (σ 1 3) then if (0 : Int) ≤ v2 ∧ (v2 : Int) < 6 then if (σ 24 v2) = x1 then if rng (v1 + 1) then if rng (v2 + 1) then fX3_countAt_23_L4 σ x1 ex0 n0 (v1 + 1) (v2 + 1) else none else none else if rng (v2 + 1) then fX3_countAt_23_L4 σ x1 ex0 n0 v1 (v2 + 1) else none else none else ex0 v1 v2
def fX3_countAt_23 (σ : Mem) (x1 : Int) : Option Int := fX3_countAt_23_L4 σ x1 (fun v9 v10 => some v9) FU 0 0
set_option maxHeartbeats 4000000 in
set_option maxRecDepth 100000 in
theorem kX3_countAt_23 (l : Launch) (dC : Nat → ClassId) (dI : Nat → Nat → Nat) (cI : ClassId) (cA : ClassId) (a : Nat → Nat) (σ : Mem) (x1 : Int) (r : Int) (hf : fX3_countAt_23 σ x1 = some r) (hR : Rg σ) (rx1 : rng x1) : Met l yX3_countAt wsX3_countAt ({ frames := 0, cells := 0, slots := 0, locals := 0 }) (va_Pc [.ref (a 23), .int (iN x1)] (preC dC dI cI cA a σ)) (qP r) 0 0 (fun _ => False) := by
  refine Met.ofW (cc := cX3_countAt) (maxL := 4) (ret := (some .int)) (by decide) rfl ?_
  intro p e s m args below meth c s₁ B hml hv
  obtain ⟨hargs, hP, hK, hN⟩ := hv
  have hx := B.exec
  have hb := B.bytes
  have hr := B.returns
  have hts := atoms_spec (ws := wsX3_countAt) B.pre
  have hown : s.vm.findClass RX3 = some m.cls := findClass_of_methodNamed B.named
  have hlocks := B.notSynchronized
  have iX1 : ∀ w ∈ wsX10, w ∈ wsX3_countAt := by decide +kernel
  have iX3 : ∀ w ∈ wsX30, w ∈ wsX3_countAt := by decide +kernel
  have fl15 := hts (.fieldLink RX3 15 "MatchHall$Matching" "hall" "LMatchHall$Hall;") (by decide +kernel)
  have fl9 := hts (.fieldLink RX3 9 "MatchHall$Matching" "hospitalOf" "[I") (by decide +kernel)
  have fn28 := va_Nw.use (A := args) rfl (hN (.fieldLinkNest RX3 28 "MatchHall$Hall" "residents" "I" "MatchHall") (by decide +kernel))
  have hrm : 0 ≤ (headSpec wsX3_countAt ({ frames := 0, cells := 0, slots := 0, locals := 0 })).room.frames ∧ 0 ≤ (headSpec wsX3_countAt ({ frames := 0, cells := 0, slots := 0, locals := 0 })).room.locals := ⟨Nat.le_refl _, Nat.le_refl _⟩
  generalize (headSpec wsX3_countAt ({ frames := 0, cells := 0, slots := 0, locals := 0 })).room = RR at hrm ⊢
  have hl := lv_entry ([.ref (a 23), .int (iN x1)]) (n := 4) (Nat.le_of_ble_eq_true rfl)
  rw [show entryFrame m args 4 = entryFrame m ([.ref (a 23), .int (iN x1)] : List Value).toArray 4 from by rw [hargs], lg_entry_eq]
  generalize (lg_sl ([.ref (a 23), .int (iN x1)]) ++ List.replicate (4 - (lg_sl ([.ref (a 23), .int (iN x1)])).length) Slot.unset).toArray = ls at hl ⊢
  have hl : lv_has ls 4 [(0, .ref (a 23)), (1, .int (iN x1))] := hl
  generalize hQQ : MQ below (qP r) args s 0 0 (fun _ => False) = QQ
  refine lv_iconst (v := iN 0) hx hb dX3_countAt_0 rfl ?_
  refine lv_istore_n (lv' := [(2, .int (iN 0)), (0, .ref (a 23)), (1, .int (iN x1))]) hx hb dX3_countAt_1 rfl hl (by decide) rfl (fun ls hl => ?_)
  refine lv_iconst (v := iN 0) hx hb dX3_countAt_2 rfl ?_
  refine lv_istore_n (lv' := [(3, .int (iN 0)), (2, .int (iN 0)), (0, .ref (a 23)), (1, .int (iN x1))]) hx hb dX3_countAt_3 rfl hl (by decide) rfl (fun ls hl => ?_)
  have L_fX3_countAt_23_L4 : ∀ (EX0 : Int → Int → Option Int), (∀ (v1 : Int) (v2 : Int), rng v1 → rng v2 → EX0 v1 v2 = some r → ∀ ls, lv_has ls 4 [(0, .ref (a 23)), (1, .int (iN x1)), (2, .int (iN v1)), (3, .int (iN v2))] → W p l e RR s m args below meth c s.heap [] 0 0 QQ (F0 m 34 ls [])) → ∀ n0 : Nat, ∀ (v1 : Int) (v2 : Int), rng v1 → rng v2 → fX3_countAt_23_L4 σ x1 EX0 n0 v1 v2 = some r → ∀ ls, lv_has ls 4 [(0, .ref (a 23)), (1, .int (iN x1)), (2, .int (iN v1)), (3, .int (iN v2))] → W p l e RR s m args below meth c s.heap [] 0 0 QQ (F0 m 4 ls []) := by
    intro EX0 hEX0 n0
    induction n0 with
    | zero => intro _ _ _ _ hf; cases hf
    | succ n0 ih0 =>
      intro v1 v2 rv1 rv2 hf ls hl
      rw [fX3_countAt_23_L4] at hf
      refine lv_iload_n hx hb dX3_countAt_4 rfl (lv_at hl 3 rfl) ?_
      refine lv_aload_n hx hb dX3_countAt_5 rfl (lv_at hl 0 rfl) ?_
      refine x_get (C := RX3) (T := TX3) (NF := 2) (v := .ref (a 1)) hx hb hts iX3 hown hK hP 23 (by decide) (cE_23 cI cA a (_)) rfl 0 (by decide) fl15 rfl dX3_countAt_6 ?_
      refine x_getN (C := RX1) (T := TX1) (NF := 5) (v := .int (iN (σ 1 3))) hx hb hts iX1 hown hK hP 1 (by decide) (cE_1 cI cA a (_)) rfl 3 (by decide) fn28 rfl dX3_countAt_9 ?_
      refine x_icmp_ge (tgt := 34) hx hb rv2 (hR 1 3) dX3_countAt_12 (by decide) (fun c8 => ?_) (fun c8 => ?_)
      · replace hf := (if_neg c8).symm.trans hf
        exact hEX0 _ _ rv1 rv2 hf _ (lv_sub hl [0, 1, 2, 3] rfl)
      · replace hf := (if_pos c8).symm.trans hf
        refine lv_aload_n hx hb dX3_countAt_15 rfl (lv_at hl 0 rfl) ?_
        refine x_get (C := RX3) (T := TX3) (NF := 2) (v := .ref (a 24)) hx hb hts iX3 hown hK hP 23 (by decide) (cE_23 cI cA a (_)) rfl 1 (by decide) fl9 rfl dX3_countAt_16 ?_
        refine lv_iload_n hx hb dX3_countAt_19 rfl (lv_at hl 3 rfl) ?_
        obtain ⟨g3, hf⟩ := gd hf
        refine x_iald hx hb hK hP 24 0 (by decide) (cE_24 cI cA a (_)) (by decide) rfl g3 dX3_countAt_20 ?_
        refine lv_iload_n hx hb dX3_countAt_21 rfl (lv_at hl 1 rfl) ?_
        refine x_icmp_ne (tgt := 28) hx hb (hR 24 v2) rx1 dX3_countAt_22 (by decide) (fun c7 => ?_) (fun c7 => ?_)
        · replace hf := (if_neg c7).symm.trans hf
          obtain ⟨g4, hf⟩ := gd hf
          refine lv_iinc (v := iN (v2 + 1)) (lv' := [(3, .int (iN (v2 + 1))), (0, .ref (a 23)), (1, .int (iN x1)), (2, .int (iN v1))]) hx hb dX3_countAt_28 hl (k := 3) rfl (iN_add v2 1) (by decide) rfl (fun ls hl => ?_)
          refine lv_goto (tgt := 4) hx hb dX3_countAt_31 (by decide) ?_
          exact ih0 _ _ rv1 g4 hf _ (lv_sub hl [1, 2, 3, 0] rfl)
        · replace hf := (if_pos c7).symm.trans hf
          obtain ⟨g5, hf⟩ := gd hf
          refine lv_iinc (v := iN (v1 + 1)) (lv' := [(2, .int (iN (v1 + 1))), (0, .ref (a 23)), (1, .int (iN x1)), (3, .int (iN v2))]) hx hb dX3_countAt_25 hl (k := 2) rfl (iN_add v1 1) (by decide) rfl (fun ls hl => ?_)
          obtain ⟨g6, hf⟩ := gd hf
          refine lv_iinc (v := iN (v2 + 1)) (lv' := [(3, .int (iN (v2 + 1))), (2, .int (iN (v1 + 1))), (0, .ref (a 23)), (1, .int (iN x1))]) hx hb dX3_countAt_28 hl (k := 3) rfl (iN_add v2 1) (by decide) rfl (fun ls hl => ?_)
          refine lv_goto (tgt := 4) hx hb dX3_countAt_31 (by decide) ?_
          exact ih0 _ _ g5 g6 hf _ (lv_sub hl [2, 3, 1, 0] rfl)
  refine L_fX3_countAt_23_L4 _ (fun v9 v10 rv9 rv10 hf ls hl => ?_) _ _ _ (by decide) (by decide) hf _ (lv_sub hl [2, 3, 1, 0] rfl)
  refine lv_iload_n hx hb dX3_countAt_34 rfl (lv_at hl 2 rfl) ?_
  rw [← hQQ]
  exact x_iret hx hb hr (Option.some.inj hf) rv9 hlocks dX3_countAt_35
def fX3_isMatching_23_L2 (σ : Mem) (ex0 : Int → Option Int) : Nat → Int → Option Int
  | 0, _ => none
  | n0 + 1, v1 => if v1 < (σ 1 3) then if (0 : Int) ≤ v1 ∧ (v1 : Int) < 6 then if (σ 24 v1) = (-1) then if rng (v1 + 1) then fX3_isMatching_23_L2 σ ex0 n0 (v1 + 1) else none else (fX1_isPair_1 σ v1 (σ 24 v1)).bind fun v4 => if v4 = 0 then some 0 else (fX3_countAt_23 σ (σ 24 v1)).bind fun v5 => if (0 : Int) ≤ (σ 24 v1) ∧ ((σ 24 v1) : Int) < 6 then if (σ 20 (σ 24 v1)) < v5 then some 0 else if rng (v1 + 1) then fX3_isMatching_23_L2 σ ex0 n0 (v1 + 1) else none else none else none else ex0 v1
def fX3_isMatching_23 (σ : Mem) : Option Int := fX3_isMatching_23_L2 σ (fun v12 => some 1) FU 0
set_option maxHeartbeats 4000000 in
set_option maxRecDepth 100000 in
theorem kX3_isMatching_23 (l : Launch) (dC : Nat → ClassId) (dI : Nat → Nat → Nat) (cI : ClassId) (cA : ClassId) (a : Nat → Nat) (σ : Mem) (r : Int) (hf : fX3_isMatching_23 σ  = some r) (hR : Rg σ) : Met l yX3_isMatching wsX3_isMatching ({ frames := 1, cells := 0, slots := 0, locals := 23 }) (va_Pc [.ref (a 23)] (preC dC dI cI cA a σ)) (qP r) 0 0 (fun _ => False) := by
  refine Met.ofW (cc := cX3_isMatching) (maxL := 3) (ret := (some .boolean)) (by decide) rfl ?_
  intro p e s m args below meth c s₁ B hml hv
  obtain ⟨hargs, hP, hK, hN⟩ := hv
  have hx := B.exec
  have hb := B.bytes
  have hr := B.returns
  have hts := atoms_spec (ws := wsX3_isMatching) B.pre
  have hown : s.vm.findClass RX3 = some m.cls := findClass_of_methodNamed B.named
  have hlocks := B.notSynchronized
  have iX1 : ∀ w ∈ wsX10, w ∈ wsX3_isMatching := by decide +kernel
  have iX3 : ∀ w ∈ wsX30, w ∈ wsX3_isMatching := by decide +kernel
  have fl15 := hts (.fieldLink RX3 15 "MatchHall$Matching" "hall" "LMatchHall$Hall;") (by decide +kernel)
  have fl9 := hts (.fieldLink RX3 9 "MatchHall$Matching" "hospitalOf" "[I") (by decide +kernel)
  have fn28 := va_Nw.use (A := args) rfl (hN (.fieldLinkNest RX3 28 "MatchHall$Hall" "residents" "I" "MatchHall") (by decide +kernel))
  have fn46 := va_Nw.use (A := args) rfl (hN (.fieldLinkNest RX3 46 "MatchHall$Hall" "seatsOf" "[I" "MatchHall") (by decide +kernel))
  have hrm : 1 ≤ (headSpec wsX3_isMatching ({ frames := 1, cells := 0, slots := 0, locals := 23 })).room.frames ∧ 23 ≤ (headSpec wsX3_isMatching ({ frames := 1, cells := 0, slots := 0, locals := 23 })).room.locals := ⟨Nat.le_refl _, Nat.le_refl _⟩
  generalize (headSpec wsX3_isMatching ({ frames := 1, cells := 0, slots := 0, locals := 23 })).room = RR at hrm ⊢
  have hl := lv_entry ([.ref (a 23)]) (n := 3) (Nat.le_of_ble_eq_true rfl)
  rw [show entryFrame m args 3 = entryFrame m ([.ref (a 23)] : List Value).toArray 3 from by rw [hargs], lg_entry_eq]
  generalize (lg_sl ([.ref (a 23)]) ++ List.replicate (3 - (lg_sl ([.ref (a 23)])).length) Slot.unset).toArray = ls at hl ⊢
  have hl : lv_has ls 3 [(0, .ref (a 23))] := hl
  generalize hQQ : MQ below (qP r) args s 0 0 (fun _ => False) = QQ
  refine lv_iconst (v := iN 0) hx hb dX3_isMatching_0 rfl ?_
  refine lv_istore_n (lv' := [(1, .int (iN 0)), (0, .ref (a 23))]) hx hb dX3_isMatching_1 rfl hl (by decide) rfl (fun ls hl => ?_)
  have L_fX3_isMatching_23_L2 : ∀ (EX0 : Int → Option Int), (∀ (v1 : Int), rng v1 → EX0 v1 = some r → ∀ ls, lv_has ls 3 [(0, .ref (a 23)), (1, .int (iN v1))] → W p l e RR s m args below meth c s.heap [] 0 0 QQ (F0 m 62 ls [])) → ∀ n0 : Nat, ∀ (v1 : Int), rng v1 → fX3_isMatching_23_L2 σ EX0 n0 v1 = some r → ∀ ls, lv_has ls 3 [(0, .ref (a 23)), (1, .int (iN v1))] → W p l e RR s m args below meth c s.heap [] 0 0 QQ (F0 m 2 ls []) := by
    intro EX0 hEX0 n0
    induction n0 with
    | zero => intro _ _ hf; cases hf
    | succ n0 ih0 =>
      intro v1 rv1 hf ls hl
      rw [fX3_isMatching_23_L2] at hf
      refine lv_iload_n hx hb dX3_isMatching_2 rfl (lv_at hl 1 rfl) ?_
      refine lv_aload_n hx hb dX3_isMatching_3 rfl (lv_at hl 0 rfl) ?_
      refine x_get (C := RX3) (T := TX3) (NF := 2) (v := .ref (a 1)) hx hb hts iX3 hown hK hP 23 (by decide) (cE_23 cI cA a (_)) rfl 0 (by decide) fl15 rfl dX3_isMatching_4 ?_
      refine x_getN (C := RX1) (T := TX1) (NF := 5) (v := .int (iN (σ 1 3))) hx hb hts iX1 hown hK hP 1 (by decide) (cE_1 cI cA a (_)) rfl 3 (by decide) fn28 rfl dX3_isMatching_7 ?_
      refine x_icmp_ge (tgt := 62) hx hb rv1 (hR 1 3) dX3_isMatching_10 (by decide) (fun c11 => ?_) (fun c11 => ?_)
      · replace hf := (if_neg c11).symm.trans hf
        exact hEX0 _ rv1 hf _ (lv_sub hl [0, 1] rfl)
      · replace hf := (if_pos c11).symm.trans hf
        refine lv_aload_n hx hb dX3_isMatching_13 rfl (lv_at hl 0 rfl) ?_
        refine x_get (C := RX3) (T := TX3) (NF := 2) (v := .ref (a 24)) hx hb hts iX3 hown hK hP 23 (by decide) (cE_23 cI cA a (_)) rfl 1 (by decide) fl9 rfl dX3_isMatching_14 ?_
        refine lv_iload_n hx hb dX3_isMatching_17 rfl (lv_at hl 1 rfl) ?_
        obtain ⟨g2, hf⟩ := gd hf
        refine x_iald hx hb hK hP 24 0 (by decide) (cE_24 cI cA a (_)) (by decide) rfl g2 dX3_isMatching_18 ?_
        refine lv_istore_n (lv' := [(2, .int (iN (σ 24 v1))), (0, .ref (a 23)), (1, .int (iN v1))]) hx hb dX3_isMatching_19 rfl hl (by decide) rfl (fun ls hl => ?_)
        refine lv_iload_n hx hb dX3_isMatching_20 rfl (lv_at hl 0 rfl) ?_
        refine lv_iconst (v := iN (-1)) hx hb dX3_isMatching_21 rfl ?_
        refine x_icmp_eq (tgt := 56) hx hb (hR 24 v1) (by decide) dX3_isMatching_22 (by decide) (fun c10 => ?_) (fun c10 => ?_)
        · replace hf := (if_pos c10).symm.trans hf
          obtain ⟨g3, hf⟩ := gd hf
          refine lv_iinc (v := iN (v1 + 1)) (lv' := [(1, .int (iN (v1 + 1))), (2, .int (iN (σ 24 v1))), (0, .ref (a 23))]) hx hb dX3_isMatching_56 hl (k := 2) rfl (iN_add v1 1) (by decide) rfl (fun ls hl => ?_)
          refine lv_goto (tgt := 2) hx hb dX3_isMatching_59 (by decide) ?_
          exact ih0 _ g3 hf _ (lv_sub hl [2, 0] rfl)
        · replace hf := (if_neg c10).symm.trans hf
          refine lv_aload_n hx hb dX3_isMatching_25 rfl (lv_at hl 1 rfl) ?_
          refine x_get (C := RX3) (T := TX3) (NF := 2) (v := .ref (a 1)) hx hb hts iX3 hown hK hP 23 (by decide) (cE_23 cI cA a (_)) rfl 0 (by decide) fl15 rfl dX3_isMatching_26 ?_
          refine lv_iload_n hx hb dX3_isMatching_29 rfl (lv_at hl 2 rfl) ?_
          refine lv_iload_n hx hb dX3_isMatching_30 rfl (lv_at hl 0 rfl) ?_
          obtain ⟨v4, hv4, hf⟩ := bd hf
          refine x_callP (va_runV (As := [.int (iN v1), .int (iN (σ 24 v1))]) (rest := []) ⟨hx, hb, hml, hown, hts⟩ (kX1_isPair_1 l dC dI cI cA a σ v1 (σ 24 v1) v4 hv4 hR rv1 (hR 24 v1)) (cwV 2 hts gX3_isMatching_X1_isPair rfl rfl rfl hX1_isPair_d ⟨Nat.le_trans (by decide) hrm.1, Nat.le_trans (by decide) hrm.2⟩) (pvC 1 (by decide) (cE_1 cI cA a (_)) rfl hP hK hN) rfl rfl hl.1 rfl (lv_room (Nat.le_of_ble_eq_true rfl)) dX3_isMatching_31 ⟨Nat.zero_le _, Nat.zero_le _⟩) (fun rv4 => ?_)
          refine x_if_eq (tgt := 54) hx hb rv4 dX3_isMatching_34 (by decide) (fun c9 => ?_) (fun c9 => ?_)
          · replace hf := (if_pos c9).symm.trans hf
            refine lv_iconst (v := iN 0) hx hb dX3_isMatching_54 rfl ?_
            rw [← hQQ]
            exact x_zret hx hb hr (by decide) (Option.some.inj hf) (by decide) hlocks dX3_isMatching_55
          · replace hf := (if_neg c9).symm.trans hf
            refine lv_aload_n hx hb dX3_isMatching_37 rfl (lv_at hl 1 rfl) ?_
            refine lv_iload_n hx hb dX3_isMatching_38 rfl (lv_at hl 0 rfl) ?_
            obtain ⟨v5, hv5, hf⟩ := bd hf
            refine x_callP (va_runV (As := [.int (iN (σ 24 v1))]) (rest := []) ⟨hx, hb, hml, hown, hts⟩ (kX3_countAt_23 l dC dI cI cA a σ (σ 24 v1) v5 hv5 hR (hR 24 v1)) (cwV 1 hts gX3_isMatching_X3_countAt rfl rfl rfl hX3_countAt_d ⟨Nat.le_trans (by decide) hrm.1, Nat.le_trans (by decide) hrm.2⟩) (pvC 23 (by decide) (cE_23 cI cA a (_)) rfl hP hK hN) rfl rfl hl.1 rfl (lv_room (Nat.le_of_ble_eq_true rfl)) dX3_isMatching_39 ⟨Nat.zero_le _, Nat.zero_le _⟩) (fun rv5 => ?_)
            refine lv_aload_n hx hb dX3_isMatching_42 rfl (lv_at hl 1 rfl) ?_
            refine x_get (C := RX3) (T := TX3) (NF := 2) (v := .ref (a 1)) hx hb hts iX3 hown hK hP 23 (by decide) (cE_23 cI cA a (_)) rfl 0 (by decide) fl15 rfl dX3_isMatching_43 ?_
            refine x_getN (C := RX1) (T := TX1) (NF := 5) (v := .ref (a 20)) hx hb hts iX1 hown hK hP 1 (by decide) (cE_1 cI cA a (_)) rfl 2 (by decide) fn46 rfl dX3_isMatching_46 ?_
            refine lv_iload_n hx hb dX3_isMatching_49 rfl (lv_at hl 0 rfl) ?_
            obtain ⟨g6, hf⟩ := gd hf
            refine x_iald hx hb hK hP 20 0 (by decide) (cE_20 cI cA a (_)) (by decide) rfl g6 dX3_isMatching_50 ?_
            refine x_icmp_le (tgt := 56) hx hb rv5 (hR 20 (σ 24 v1)) dX3_isMatching_51 (by decide) (fun c8 => ?_) (fun c8 => ?_)
            · replace hf := (if_neg c8).symm.trans hf
              obtain ⟨g7, hf⟩ := gd hf
              refine lv_iinc (v := iN (v1 + 1)) (lv' := [(1, .int (iN (v1 + 1))), (2, .int (iN (σ 24 v1))), (0, .ref (a 23))]) hx hb dX3_isMatching_56 hl (k := 2) rfl (iN_add v1 1) (by decide) rfl (fun ls hl => ?_)
              refine lv_goto (tgt := 2) hx hb dX3_isMatching_59 (by decide) ?_
              exact ih0 _ g7 hf _ (lv_sub hl [2, 0] rfl)
            · replace hf := (if_pos c8).symm.trans hf
              refine lv_iconst (v := iN 0) hx hb dX3_isMatching_54 rfl ?_
              rw [← hQQ]
              exact x_zret hx hb hr (by decide) (Option.some.inj hf) (by decide) hlocks dX3_isMatching_55
  refine L_fX3_isMatching_23_L2 _ (fun v12 rv12 hf ls hl => ?_) _ _ (by decide) hf _ (lv_sub hl [1, 0] rfl)
  refine lv_iconst (v := iN 1) hx hb dX3_isMatching_62 rfl ?_
  rw [← hQQ]
  exact x_zret hx hb hr (by decide) (Option.some.inj hf) (by decide) hlocks dX3_isMatching_63
def fX3_wouldGo_23 (σ : Mem) (x1 : Int) (x2 : Int) : Option Int := if (0 : Int) ≤ x1 ∧ (x1 : Int) < 6 then if (0 : Int) ≤ x1 ∧ (x1 : Int) < 6 then if (σ 24 x1) = (-1) then some 1 else if (0 : Int) ≤ x2 ∧ (x2 : Int) < 6 then if (0 : Int) ≤ (σ 24 x1) ∧ ((σ 24 x1) : Int) < 6 then if (σ (4 + x1.toNat) x2) < (σ (4 + x1.toNat) (σ 24 x1)) then some 1 else some 0 else none else none else none else none
set_option maxHeartbeats 4000000 in
set_option maxRecDepth 100000 in
theorem kX3_wouldGo_23 (l : Launch) (dC : Nat → ClassId) (dI : Nat → Nat → Nat) (cI : ClassId) (cA : ClassId) (a : Nat → Nat) (σ : Mem) (x1 : Int) (x2 : Int) (r : Int) (hf : fX3_wouldGo_23 σ x1 x2 = some r) (hR : Rg σ) (rx1 : rng x1) (rx2 : rng x2) : Met l yX3_wouldGo wsX3_wouldGo ({ frames := 0, cells := 0, slots := 0, locals := 0 }) (va_Pc [.ref (a 23), .int (iN x1), .int (iN x2)] (preC dC dI cI cA a σ)) (qP r) 0 0 (fun _ => False) := by
  refine Met.ofW (cc := cX3_wouldGo) (maxL := 5) (ret := (some .boolean)) (by decide) rfl ?_
  intro p e s m args below meth c s₁ B hml hv
  obtain ⟨hargs, hP, hK, hN⟩ := hv
  have hx := B.exec
  have hb := B.bytes
  have hr := B.returns
  have hts := atoms_spec (ws := wsX3_wouldGo) B.pre
  have hown : s.vm.findClass RX3 = some m.cls := findClass_of_methodNamed B.named
  have hlocks := B.notSynchronized
  have iX1 : ∀ w ∈ wsX10, w ∈ wsX3_wouldGo := by decide +kernel
  have iX2 : ∀ w ∈ wsX20, w ∈ wsX3_wouldGo := by decide +kernel
  have iX3 : ∀ w ∈ wsX30, w ∈ wsX3_wouldGo := by decide +kernel
  have fl15 := hts (.fieldLink RX3 15 "MatchHall$Matching" "hall" "LMatchHall$Hall;") (by decide +kernel)
  have fl9 := hts (.fieldLink RX3 9 "MatchHall$Matching" "hospitalOf" "[I") (by decide +kernel)
  have fn68 := va_Nw.use (A := args) rfl (hN (.fieldLinkNest RX3 68 "MatchHall$Hall" "ofResidents" "LMatchHall$Lists;" "MatchHall") (by decide +kernel))
  have fn72 := va_Nw.use (A := args) rfl (hN (.fieldLinkNest RX3 72 "MatchHall$Lists" "places" "[[I" "MatchHall") (by decide +kernel))
  have hrm : 0 ≤ (headSpec wsX3_wouldGo ({ frames := 0, cells := 0, slots := 0, locals := 0 })).room.frames ∧ 0 ≤ (headSpec wsX3_wouldGo ({ frames := 0, cells := 0, slots := 0, locals := 0 })).room.locals := ⟨Nat.le_refl _, Nat.le_refl _⟩
  generalize (headSpec wsX3_wouldGo ({ frames := 0, cells := 0, slots := 0, locals := 0 })).room = RR at hrm ⊢
  have hl := lv_entry ([.ref (a 23), .int (iN x1), .int (iN x2)]) (n := 5) (Nat.le_of_ble_eq_true rfl)
  rw [show entryFrame m args 5 = entryFrame m ([.ref (a 23), .int (iN x1), .int (iN x2)] : List Value).toArray 5 from by rw [hargs], lg_entry_eq]
  generalize (lg_sl ([.ref (a 23), .int (iN x1), .int (iN x2)]) ++ List.replicate (5 - (lg_sl ([.ref (a 23), .int (iN x1), .int (iN x2)])).length) Slot.unset).toArray = ls at hl ⊢
  have hl : lv_has ls 5 [(0, .ref (a 23)), (1, .int (iN x1)), (2, .int (iN x2))] := hl
  generalize hQQ : MQ below (qP r) args s 0 0 (fun _ => False) = QQ
  refine lv_aload_n hx hb dX3_wouldGo_0 rfl (lv_at hl 0 rfl) ?_
  refine x_get (C := RX3) (T := TX3) (NF := 2) (v := .ref (a 1)) hx hb hts iX3 hown hK hP 23 (by decide) (cE_23 cI cA a (_)) rfl 0 (by decide) fl15 rfl dX3_wouldGo_1 ?_
  refine x_getN (C := RX1) (T := TX1) (NF := 5) (v := .ref (a 2)) hx hb hts iX1 hown hK hP 1 (by decide) (cE_1 cI cA a (_)) rfl 0 (by decide) fn68 rfl dX3_wouldGo_4 ?_
  refine x_getN (C := RX2) (T := TX2) (NF := 4) (v := .ref (a 3)) hx hb hts iX2 hown hK hP 2 (by decide) (cE_2 cI cA a (_)) rfl 0 (by decide) fn72 rfl dX3_wouldGo_7 ?_
  refine lv_iload_n hx hb dX3_wouldGo_10 rfl (lv_at hl 1 rfl) ?_
  obtain ⟨g1, hf⟩ := gd hf
  refine x_aald hx hb hK hP 3 1 (by decide) (cE_3 cI cA a (_)) (by decide) rfl g1 (row_f4 a g1) dX3_wouldGo_11 ?_
  refine lv_astore_n (lv' := [(3, .ref (a (4 + x1.toNat))), (0, .ref (a 23)), (1, .int (iN x1)), (2, .int (iN x2))]) hx hb dX3_wouldGo_12 rfl hl (by decide) rfl (fun ls hl => ?_)
  refine lv_aload_n hx hb dX3_wouldGo_13 rfl (lv_at hl 1 rfl) ?_
  refine x_get (C := RX3) (T := TX3) (NF := 2) (v := .ref (a 24)) hx hb hts iX3 hown hK hP 23 (by decide) (cE_23 cI cA a (_)) rfl 1 (by decide) fl9 rfl dX3_wouldGo_14 ?_
  refine lv_iload_n hx hb dX3_wouldGo_17 rfl (lv_at hl 2 rfl) ?_
  obtain ⟨g2, hf⟩ := gd hf
  refine x_iald hx hb hK hP 24 0 (by decide) (cE_24 cI cA a (_)) (by decide) rfl g2 dX3_wouldGo_18 ?_
  refine lv_istore (lv' := [(4, .int (iN (σ 24 x1))), (3, .ref (a (4 + x1.toNat))), (0, .ref (a 23)), (1, .int (iN x1)), (2, .int (iN x2))]) hx hb dX3_wouldGo_19 hl (by decide) rfl (fun ls hl => ?_)
  refine lv_iload hx hb dX3_wouldGo_21 (lv_at hl 0 rfl) ?_
  refine lv_iconst (v := iN (-1)) hx hb dX3_wouldGo_23 rfl ?_
  refine x_icmp_eq (tgt := 37) hx hb (hR 24 x1) (by decide) dX3_wouldGo_24 (by decide) (fun c6 => ?_) (fun c6 => ?_)
  · replace hf := (if_pos c6).symm.trans hf
    refine lv_iconst (v := iN 1) hx hb dX3_wouldGo_37 rfl ?_
    refine lv_goto (tgt := 42) hx hb dX3_wouldGo_38 (by decide) ?_
    rw [← hQQ]
    exact x_zret hx hb hr (by decide) (Option.some.inj hf) (by decide) hlocks dX3_wouldGo_42
  · replace hf := (if_neg c6).symm.trans hf
    refine lv_aload_n hx hb dX3_wouldGo_27 rfl (lv_at hl 1 rfl) ?_
    refine lv_iload_n hx hb dX3_wouldGo_28 rfl (lv_at hl 4 rfl) ?_
    obtain ⟨g3, hf⟩ := gd hf
    refine x_iald hx hb hK hP (4 + x1.toNat) 0 (row_lt4 g1) (cE_row4 cI cA a g1 _) (by decide) rfl g3 dX3_wouldGo_29 ?_
    refine lv_aload_n hx hb dX3_wouldGo_30 rfl (lv_at hl 1 rfl) ?_
    refine lv_iload hx hb dX3_wouldGo_31 (lv_at hl 0 rfl) ?_
    obtain ⟨g4, hf⟩ := gd hf
    refine x_iald hx hb hK hP (4 + x1.toNat) 0 (row_lt4 g1) (cE_row4 cI cA a g1 _) (by decide) rfl g4 dX3_wouldGo_33 ?_
    refine x_icmp_ge (tgt := 41) hx hb (hR (4 + x1.toNat) x2) (hR (4 + x1.toNat) (σ 24 x1)) dX3_wouldGo_34 (by decide) (fun c5 => ?_) (fun c5 => ?_)
    · replace hf := (if_neg c5).symm.trans hf
      refine lv_iconst (v := iN 0) hx hb dX3_wouldGo_41 rfl ?_
      rw [← hQQ]
      exact x_zret hx hb hr (by decide) (Option.some.inj hf) (by decide) hlocks dX3_wouldGo_42
    · replace hf := (if_pos c5).symm.trans hf
      refine lv_iconst (v := iN 1) hx hb dX3_wouldGo_37 rfl ?_
      refine lv_goto (tgt := 42) hx hb dX3_wouldGo_38 (by decide) ?_
      rw [← hQQ]
      exact x_zret hx hb hr (by decide) (Option.some.inj hf) (by decide) hlocks dX3_wouldGo_42
def fX3_wouldGet_23_L19 (σ : Mem) (x1 : Int) (x2 : Int) (ex0 : Int → Int → Option Int) : Nat → Int → Int → Option Int
  | 0, _, _ => none
  | n0 + 1, v2, v3 => if v3 < (σ 1 3) then if (0 : Int) ≤ v3 ∧ (v3 : Int) < 6 then if (σ 24 v3) = x1 then if rng (v2 + 1) then if (0 : Int) ≤ x2 ∧ (x2 : Int) < 6 then if (0 : Int) ≤ v3 ∧ (v3 : Int) < 6 then if (σ (13 + x1.toNat) x2) < (σ (13 + x1.toNat) v3) then some 1 else if rng (v3 + 1) then fX3_wouldGet_23_L19 σ x1 x2 ex0 n0 (v2 + 1) (v3 + 1) else none else none else none else none else if rng (v3 + 1) then fX3_wouldGet_23_L19 σ x1 x2 ex0 n0 v2 (v3 + 1) else none else none else ex0 v2 v3
def fX3_wouldGet_23 (σ : Mem) (x1 : Int) (x2 : Int) : Option Int := if (0 : Int) ≤ x1 ∧ (x1 : Int) < 6 then fX3_wouldGet_23_L19 σ x1 x2 (fun v13 v14 => if (0 : Int) ≤ x1 ∧ (x1 : Int) < 6 then if v13 < (σ 20 x1) then some 1 else some 0 else none) FU 0 0 else none
set_option maxHeartbeats 4000000 in
set_option maxRecDepth 100000 in
theorem kX3_wouldGet_23 (l : Launch) (dC : Nat → ClassId) (dI : Nat → Nat → Nat) (cI : ClassId) (cA : ClassId) (a : Nat → Nat) (σ : Mem) (x1 : Int) (x2 : Int) (r : Int) (hf : fX3_wouldGet_23 σ x1 x2 = some r) (hR : Rg σ) (rx1 : rng x1) (rx2 : rng x2) : Met l yX3_wouldGet wsX3_wouldGet ({ frames := 0, cells := 0, slots := 0, locals := 0 }) (va_Pc [.ref (a 23), .int (iN x1), .int (iN x2)] (preC dC dI cI cA a σ)) (qP r) 0 0 (fun _ => False) := by
  refine Met.ofW (cc := cX3_wouldGet) (maxL := 6) (ret := (some .boolean)) (by decide) rfl ?_
  intro p e s m args below meth c s₁ B hml hv
  obtain ⟨hargs, hP, hK, hN⟩ := hv
  have hx := B.exec
  have hb := B.bytes
  have hr := B.returns
  have hts := atoms_spec (ws := wsX3_wouldGet) B.pre
  have hown : s.vm.findClass RX3 = some m.cls := findClass_of_methodNamed B.named
  have hlocks := B.notSynchronized
  have iX1 : ∀ w ∈ wsX10, w ∈ wsX3_wouldGet := by decide +kernel
  have iX2 : ∀ w ∈ wsX20, w ∈ wsX3_wouldGet := by decide +kernel
  have iX3 : ∀ w ∈ wsX30, w ∈ wsX3_wouldGet := by decide +kernel
  have fl15 := hts (.fieldLink RX3 15 "MatchHall$Matching" "hall" "LMatchHall$Hall;") (by decide +kernel)
  have fl9 := hts (.fieldLink RX3 9 "MatchHall$Matching" "hospitalOf" "[I") (by decide +kernel)
  have fn28 := va_Nw.use (A := args) rfl (hN (.fieldLinkNest RX3 28 "MatchHall$Hall" "residents" "I" "MatchHall") (by decide +kernel))
  have fn46 := va_Nw.use (A := args) rfl (hN (.fieldLinkNest RX3 46 "MatchHall$Hall" "seatsOf" "[I" "MatchHall") (by decide +kernel))
  have fn72 := va_Nw.use (A := args) rfl (hN (.fieldLinkNest RX3 72 "MatchHall$Lists" "places" "[[I" "MatchHall") (by decide +kernel))
  have fn78 := va_Nw.use (A := args) rfl (hN (.fieldLinkNest RX3 78 "MatchHall$Hall" "ofHospitals" "LMatchHall$Lists;" "MatchHall") (by decide +kernel))
  have hrm : 0 ≤ (headSpec wsX3_wouldGet ({ frames := 0, cells := 0, slots := 0, locals := 0 })).room.frames ∧ 0 ≤ (headSpec wsX3_wouldGet ({ frames := 0, cells := 0, slots := 0, locals := 0 })).room.locals := ⟨Nat.le_refl _, Nat.le_refl _⟩
  generalize (headSpec wsX3_wouldGet ({ frames := 0, cells := 0, slots := 0, locals := 0 })).room = RR at hrm ⊢
  have hl := lv_entry ([.ref (a 23), .int (iN x1), .int (iN x2)]) (n := 6) (Nat.le_of_ble_eq_true rfl)
  rw [show entryFrame m args 6 = entryFrame m ([.ref (a 23), .int (iN x1), .int (iN x2)] : List Value).toArray 6 from by rw [hargs], lg_entry_eq]
  generalize (lg_sl ([.ref (a 23), .int (iN x1), .int (iN x2)]) ++ List.replicate (6 - (lg_sl ([.ref (a 23), .int (iN x1), .int (iN x2)])).length) Slot.unset).toArray = ls at hl ⊢
  have hl : lv_has ls 6 [(0, .ref (a 23)), (1, .int (iN x1)), (2, .int (iN x2))] := hl
  generalize hQQ : MQ below (qP r) args s 0 0 (fun _ => False) = QQ
  refine lv_aload_n hx hb dX3_wouldGet_0 rfl (lv_at hl 0 rfl) ?_
  refine x_get (C := RX3) (T := TX3) (NF := 2) (v := .ref (a 1)) hx hb hts iX3 hown hK hP 23 (by decide) (cE_23 cI cA a (_)) rfl 0 (by decide) fl15 rfl dX3_wouldGet_1 ?_
  refine x_getN (C := RX1) (T := TX1) (NF := 5) (v := .ref (a 11)) hx hb hts iX1 hown hK hP 1 (by decide) (cE_1 cI cA a (_)) rfl 1 (by decide) fn78 rfl dX3_wouldGet_4 ?_
  refine x_getN (C := RX2) (T := TX2) (NF := 4) (v := .ref (a 12)) hx hb hts iX2 hown hK hP 11 (by decide) (cE_11 cI cA a (_)) rfl 0 (by decide) fn72 rfl dX3_wouldGet_7 ?_
  refine lv_iload_n hx hb dX3_wouldGet_10 rfl (lv_at hl 1 rfl) ?_
  obtain ⟨g1, hf⟩ := gd hf
  refine x_aald hx hb hK hP 12 1 (by decide) (cE_12 cI cA a (_)) (by decide) rfl g1 (row_f13 a g1) dX3_wouldGet_11 ?_
  refine lv_astore_n (lv' := [(3, .ref (a (13 + x1.toNat))), (0, .ref (a 23)), (1, .int (iN x1)), (2, .int (iN x2))]) hx hb dX3_wouldGet_12 rfl hl (by decide) rfl (fun ls hl => ?_)
  refine lv_iconst (v := iN 0) hx hb dX3_wouldGet_13 rfl ?_
  refine lv_istore (lv' := [(4, .int (iN 0)), (3, .ref (a (13 + x1.toNat))), (0, .ref (a 23)), (1, .int (iN x1)), (2, .int (iN x2))]) hx hb dX3_wouldGet_14 hl (by decide) rfl (fun ls hl => ?_)
  refine lv_iconst (v := iN 0) hx hb dX3_wouldGet_16 rfl ?_
  refine lv_istore (lv' := [(5, .int (iN 0)), (4, .int (iN 0)), (3, .ref (a (13 + x1.toNat))), (0, .ref (a 23)), (1, .int (iN x1)), (2, .int (iN x2))]) hx hb dX3_wouldGet_17 hl (by decide) rfl (fun ls hl => ?_)
  have L_fX3_wouldGet_23_L19 : ∀ (EX0 : Int → Int → Option Int), (∀ (v2 : Int) (v3 : Int), rng v2 → rng v3 → EX0 v2 v3 = some r → ∀ ls, lv_has ls 6 [(0, .ref (a 23)), (1, .int (iN x1)), (2, .int (iN x2)), (3, .ref (a (13 + x1.toNat))), (4, .int (iN v2)), (5, .int (iN v3))] → W p l e RR s m args below meth c s.heap [] 0 0 QQ (F0 m 63 ls [])) → ∀ n0 : Nat, ∀ (v2 : Int) (v3 : Int), rng v2 → rng v3 → fX3_wouldGet_23_L19 σ x1 x2 EX0 n0 v2 v3 = some r → ∀ ls, lv_has ls 6 [(0, .ref (a 23)), (1, .int (iN x1)), (2, .int (iN x2)), (3, .ref (a (13 + x1.toNat))), (4, .int (iN v2)), (5, .int (iN v3))] → W p l e RR s m args below meth c s.heap [] 0 0 QQ (F0 m 19 ls []) := by
    intro EX0 hEX0 n0
    induction n0 with
    | zero => intro _ _ _ _ hf; cases hf
    | succ n0 ih0 =>
      intro v2 v3 rv2 rv3 hf ls hl
      rw [fX3_wouldGet_23_L19] at hf
      refine lv_iload hx hb dX3_wouldGet_19 (lv_at hl 5 rfl) ?_
      refine lv_aload_n hx hb dX3_wouldGet_21 rfl (lv_at hl 0 rfl) ?_
      refine x_get (C := RX3) (T := TX3) (NF := 2) (v := .ref (a 1)) hx hb hts iX3 hown hK hP 23 (by decide) (cE_23 cI cA a (_)) rfl 0 (by decide) fl15 rfl dX3_wouldGet_22 ?_
      refine x_getN (C := RX1) (T := TX1) (NF := 5) (v := .int (iN (σ 1 3))) hx hb hts iX1 hown hK hP 1 (by decide) (cE_1 cI cA a (_)) rfl 3 (by decide) fn28 rfl dX3_wouldGet_25 ?_
      refine x_icmp_ge (tgt := 63) hx hb rv3 (hR 1 3) dX3_wouldGet_28 (by decide) (fun c12 => ?_) (fun c12 => ?_)
      · replace hf := (if_neg c12).symm.trans hf
        exact hEX0 _ _ rv2 rv3 hf _ (lv_sub hl [0, 1, 2, 3, 4, 5] rfl)
      · replace hf := (if_pos c12).symm.trans hf
        refine lv_aload_n hx hb dX3_wouldGet_31 rfl (lv_at hl 0 rfl) ?_
        refine x_get (C := RX3) (T := TX3) (NF := 2) (v := .ref (a 24)) hx hb hts iX3 hown hK hP 23 (by decide) (cE_23 cI cA a (_)) rfl 1 (by decide) fl9 rfl dX3_wouldGet_32 ?_
        refine lv_iload hx hb dX3_wouldGet_35 (lv_at hl 5 rfl) ?_
        obtain ⟨g4, hf⟩ := gd hf
        refine x_iald hx hb hK hP 24 0 (by decide) (cE_24 cI cA a (_)) (by decide) rfl g4 dX3_wouldGet_37 ?_
        refine lv_iload_n hx hb dX3_wouldGet_38 rfl (lv_at hl 1 rfl) ?_
        refine x_icmp_ne (tgt := 57) hx hb (hR 24 v3) rx1 dX3_wouldGet_39 (by decide) (fun c11 => ?_) (fun c11 => ?_)
        · replace hf := (if_neg c11).symm.trans hf
          obtain ⟨g5, hf⟩ := gd hf
          refine lv_iinc (v := iN (v3 + 1)) (lv' := [(5, .int (iN (v3 + 1))), (0, .ref (a 23)), (1, .int (iN x1)), (2, .int (iN x2)), (3, .ref (a (13 + x1.toNat))), (4, .int (iN v2))]) hx hb dX3_wouldGet_57 hl (k := 5) rfl (iN_add v3 1) (by decide) rfl (fun ls hl => ?_)
          refine lv_goto (tgt := 19) hx hb dX3_wouldGet_60 (by decide) ?_
          exact ih0 _ _ rv2 g5 hf _ (lv_sub hl [1, 2, 3, 4, 5, 0] rfl)
        · replace hf := (if_pos c11).symm.trans hf
          obtain ⟨g6, hf⟩ := gd hf
          refine lv_iinc (v := iN (v2 + 1)) (lv' := [(4, .int (iN (v2 + 1))), (0, .ref (a 23)), (1, .int (iN x1)), (2, .int (iN x2)), (3, .ref (a (13 + x1.toNat))), (5, .int (iN v3))]) hx hb dX3_wouldGet_42 hl (k := 4) rfl (iN_add v2 1) (by decide) rfl (fun ls hl => ?_)
          refine lv_aload_n hx hb dX3_wouldGet_45 rfl (lv_at hl 4 rfl) ?_
          refine lv_iload_n hx hb dX3_wouldGet_46 rfl (lv_at hl 3 rfl) ?_
          obtain ⟨g7, hf⟩ := gd hf
          refine x_iald hx hb hK hP (13 + x1.toNat) 0 (row_lt13 g1) (cE_row13 cI cA a g1 _) (by decide) rfl g7 dX3_wouldGet_47 ?_
          refine lv_aload_n hx hb dX3_wouldGet_48 rfl (lv_at hl 4 rfl) ?_
          refine lv_iload hx hb dX3_wouldGet_49 (lv_at hl 5 rfl) ?_
          obtain ⟨g8, hf⟩ := gd hf
          refine x_iald hx hb hK hP (13 + x1.toNat) 0 (row_lt13 g1) (cE_row13 cI cA a g1 _) (by decide) rfl g8 dX3_wouldGet_51 ?_
          refine x_icmp_ge (tgt := 57) hx hb (hR (13 + x1.toNat) x2) (hR (13 + x1.toNat) v3) dX3_wouldGet_52 (by decide) (fun c10 => ?_) (fun c10 => ?_)
          · replace hf := (if_neg c10).symm.trans hf
            obtain ⟨g9, hf⟩ := gd hf
            refine lv_iinc (v := iN (v3 + 1)) (lv' := [(5, .int (iN (v3 + 1))), (4, .int (iN (v2 + 1))), (0, .ref (a 23)), (1, .int (iN x1)), (2, .int (iN x2)), (3, .ref (a (13 + x1.toNat)))]) hx hb dX3_wouldGet_57 hl (k := 5) rfl (iN_add v3 1) (by decide) rfl (fun ls hl => ?_)
            refine lv_goto (tgt := 19) hx hb dX3_wouldGet_60 (by decide) ?_
            exact ih0 _ _ g6 g9 hf _ (lv_sub hl [2, 3, 4, 5, 1, 0] rfl)
          · replace hf := (if_pos c10).symm.trans hf
            refine lv_iconst (v := iN 1) hx hb dX3_wouldGet_55 rfl ?_
            rw [← hQQ]
            exact x_zret hx hb hr (by decide) (Option.some.inj hf) (by decide) hlocks dX3_wouldGet_56
  refine L_fX3_wouldGet_23_L19 _ (fun v13 v14 rv13 rv14 hf ls hl => ?_) _ _ _ (by decide) (by decide) hf _ (lv_sub hl [3, 4, 5, 2, 1, 0] rfl)
  refine lv_iload hx hb dX3_wouldGet_63 (lv_at hl 4 rfl) ?_
  refine lv_aload_n hx hb dX3_wouldGet_65 rfl (lv_at hl 0 rfl) ?_
  refine x_get (C := RX3) (T := TX3) (NF := 2) (v := .ref (a 1)) hx hb hts iX3 hown hK hP 23 (by decide) (cE_23 cI cA a (_)) rfl 0 (by decide) fl15 rfl dX3_wouldGet_66 ?_
  refine x_getN (C := RX1) (T := TX1) (NF := 5) (v := .ref (a 20)) hx hb hts iX1 hown hK hP 1 (by decide) (cE_1 cI cA a (_)) rfl 2 (by decide) fn46 rfl dX3_wouldGet_69 ?_
  refine lv_iload_n hx hb dX3_wouldGet_72 rfl (lv_at hl 1 rfl) ?_
  obtain ⟨g15, hf⟩ := gd hf
  refine x_iald hx hb hK hP 20 0 (by decide) (cE_20 cI cA a (_)) (by decide) rfl g15 dX3_wouldGet_73 ?_
  refine x_icmp_ge (tgt := 81) hx hb rv13 (hR 20 x1) dX3_wouldGet_74 (by decide) (fun c16 => ?_) (fun c16 => ?_)
  · replace hf := (if_neg c16).symm.trans hf
    refine lv_iconst (v := iN 0) hx hb dX3_wouldGet_81 rfl ?_
    rw [← hQQ]
    exact x_zret hx hb hr (by decide) (Option.some.inj hf) (by decide) hlocks dX3_wouldGet_82
  · replace hf := (if_pos c16).symm.trans hf
    refine lv_iconst (v := iN 1) hx hb dX3_wouldGet_77 rfl ?_
    refine lv_goto (tgt := 82) hx hb dX3_wouldGet_78 (by decide) ?_
    rw [← hQQ]
    exact x_zret hx hb hr (by decide) (Option.some.inj hf) (by decide) hlocks dX3_wouldGet_82
def fX3_isBlockedBy_23 (σ : Mem) (x1 : Int) (x2 : Int) : Option Int := (fX1_isPair_1 σ x1 x2).bind fun v1 => if v1 = 0 then some 0 else (fX3_wouldGo_23 σ x1 x2).bind fun v2 => if v2 = 0 then some 0 else (fX3_wouldGet_23 σ x2 x1).bind fun v3 => if v3 = 0 then some 0 else some 1
set_option maxHeartbeats 4000000 in
set_option maxRecDepth 100000 in
theorem kX3_isBlockedBy_23 (l : Launch) (dC : Nat → ClassId) (dI : Nat → Nat → Nat) (cI : ClassId) (cA : ClassId) (a : Nat → Nat) (σ : Mem) (x1 : Int) (x2 : Int) (r : Int) (hf : fX3_isBlockedBy_23 σ x1 x2 = some r) (hR : Rg σ) (rx1 : rng x1) (rx2 : rng x2) : Met l yX3_isBlockedBy wsX3_isBlockedBy ({ frames := 1, cells := 0, slots := 0, locals := 25 }) (va_Pc [.ref (a 23), .int (iN x1), .int (iN x2)] (preC dC dI cI cA a σ)) (qP r) 0 0 (fun _ => False) := by
  refine Met.ofW (cc := cX3_isBlockedBy) (maxL := 3) (ret := (some .boolean)) (by decide) rfl ?_
  intro p e s m args below meth c s₁ B hml hv
  obtain ⟨hargs, hP, hK, hN⟩ := hv
  have hx := B.exec
  have hb := B.bytes
  have hr := B.returns
  have hts := atoms_spec (ws := wsX3_isBlockedBy) B.pre
  have hown : s.vm.findClass RX3 = some m.cls := findClass_of_methodNamed B.named
  have hlocks := B.notSynchronized
  have iX3 : ∀ w ∈ wsX30, w ∈ wsX3_isBlockedBy := by decide +kernel
  have fl15 := hts (.fieldLink RX3 15 "MatchHall$Matching" "hall" "LMatchHall$Hall;") (by decide +kernel)
  have hrm : 1 ≤ (headSpec wsX3_isBlockedBy ({ frames := 1, cells := 0, slots := 0, locals := 25 })).room.frames ∧ 25 ≤ (headSpec wsX3_isBlockedBy ({ frames := 1, cells := 0, slots := 0, locals := 25 })).room.locals := ⟨Nat.le_refl _, Nat.le_refl _⟩
  generalize (headSpec wsX3_isBlockedBy ({ frames := 1, cells := 0, slots := 0, locals := 25 })).room = RR at hrm ⊢
  have hl := lv_entry ([.ref (a 23), .int (iN x1), .int (iN x2)]) (n := 3) (Nat.le_of_ble_eq_true rfl)
  rw [show entryFrame m args 3 = entryFrame m ([.ref (a 23), .int (iN x1), .int (iN x2)] : List Value).toArray 3 from by rw [hargs], lg_entry_eq]
  generalize (lg_sl ([.ref (a 23), .int (iN x1), .int (iN x2)]) ++ List.replicate (3 - (lg_sl ([.ref (a 23), .int (iN x1), .int (iN x2)])).length) Slot.unset).toArray = ls at hl ⊢
  have hl : lv_has ls 3 [(0, .ref (a 23)), (1, .int (iN x1)), (2, .int (iN x2))] := hl
  generalize hQQ : MQ below (qP r) args s 0 0 (fun _ => False) = QQ
  refine lv_aload_n hx hb dX3_isBlockedBy_0 rfl (lv_at hl 0 rfl) ?_
  refine x_get (C := RX3) (T := TX3) (NF := 2) (v := .ref (a 1)) hx hb hts iX3 hown hK hP 23 (by decide) (cE_23 cI cA a (_)) rfl 0 (by decide) fl15 rfl dX3_isBlockedBy_1 ?_
  refine lv_iload_n hx hb dX3_isBlockedBy_4 rfl (lv_at hl 1 rfl) ?_
  refine lv_iload_n hx hb dX3_isBlockedBy_5 rfl (lv_at hl 2 rfl) ?_
  obtain ⟨v1, hv1, hf⟩ := bd hf
  refine x_callP (va_runV (As := [.int (iN x1), .int (iN x2)]) (rest := []) ⟨hx, hb, hml, hown, hts⟩ (kX1_isPair_1 l dC dI cI cA a σ x1 x2 v1 hv1 hR rx1 rx2) (cwV 2 hts gX3_isBlockedBy_X1_isPair rfl rfl rfl hX1_isPair_d ⟨Nat.le_trans (by decide) hrm.1, Nat.le_trans (by decide) hrm.2⟩) (pvC 1 (by decide) (cE_1 cI cA a (_)) rfl hP hK hN) rfl rfl hl.1 rfl (lv_room (Nat.le_of_ble_eq_true rfl)) dX3_isBlockedBy_6 ⟨Nat.zero_le _, Nat.zero_le _⟩) (fun rv1 => ?_)
  refine x_if_eq (tgt := 34) hx hb rv1 dX3_isBlockedBy_9 (by decide) (fun c6 => ?_) (fun c6 => ?_)
  · replace hf := (if_pos c6).symm.trans hf
    refine lv_iconst (v := iN 0) hx hb dX3_isBlockedBy_34 rfl ?_
    rw [← hQQ]
    exact x_zret hx hb hr (by decide) (Option.some.inj hf) (by decide) hlocks dX3_isBlockedBy_35
  · replace hf := (if_neg c6).symm.trans hf
    refine lv_aload_n hx hb dX3_isBlockedBy_12 rfl (lv_at hl 0 rfl) ?_
    refine lv_iload_n hx hb dX3_isBlockedBy_13 rfl (lv_at hl 1 rfl) ?_
    refine lv_iload_n hx hb dX3_isBlockedBy_14 rfl (lv_at hl 2 rfl) ?_
    obtain ⟨v2, hv2, hf⟩ := bd hf
    refine x_callP (va_runV (As := [.int (iN x1), .int (iN x2)]) (rest := []) ⟨hx, hb, hml, hown, hts⟩ (kX3_wouldGo_23 l dC dI cI cA a σ x1 x2 v2 hv2 hR rx1 rx2) (cwV 2 hts gX3_isBlockedBy_X3_wouldGo rfl rfl rfl hX3_wouldGo_d ⟨Nat.le_trans (by decide) hrm.1, Nat.le_trans (by decide) hrm.2⟩) (pvC 23 (by decide) (cE_23 cI cA a (_)) rfl hP hK hN) rfl rfl hl.1 rfl (lv_room (Nat.le_of_ble_eq_true rfl)) dX3_isBlockedBy_15 ⟨Nat.zero_le _, Nat.zero_le _⟩) (fun rv2 => ?_)
    refine x_if_eq (tgt := 34) hx hb rv2 dX3_isBlockedBy_18 (by decide) (fun c5 => ?_) (fun c5 => ?_)
    · replace hf := (if_pos c5).symm.trans hf
      refine lv_iconst (v := iN 0) hx hb dX3_isBlockedBy_34 rfl ?_
      rw [← hQQ]
      exact x_zret hx hb hr (by decide) (Option.some.inj hf) (by decide) hlocks dX3_isBlockedBy_35
    · replace hf := (if_neg c5).symm.trans hf
      refine lv_aload_n hx hb dX3_isBlockedBy_21 rfl (lv_at hl 0 rfl) ?_
      refine lv_iload_n hx hb dX3_isBlockedBy_22 rfl (lv_at hl 2 rfl) ?_
      refine lv_iload_n hx hb dX3_isBlockedBy_23 rfl (lv_at hl 1 rfl) ?_
      obtain ⟨v3, hv3, hf⟩ := bd hf
      refine x_callP (va_runV (As := [.int (iN x2), .int (iN x1)]) (rest := []) ⟨hx, hb, hml, hown, hts⟩ (kX3_wouldGet_23 l dC dI cI cA a σ x2 x1 v3 hv3 hR rx2 rx1) (cwV 2 hts gX3_isBlockedBy_X3_wouldGet rfl rfl rfl hX3_wouldGet_d ⟨Nat.le_trans (by decide) hrm.1, Nat.le_trans (by decide) hrm.2⟩) (pvC 23 (by decide) (cE_23 cI cA a (_)) rfl hP hK hN) rfl rfl hl.1 rfl (lv_room (Nat.le_of_ble_eq_true rfl)) dX3_isBlockedBy_24 ⟨Nat.zero_le _, Nat.zero_le _⟩) (fun rv3 => ?_)
      refine x_if_eq (tgt := 34) hx hb rv3 dX3_isBlockedBy_27 (by decide) (fun c4 => ?_) (fun c4 => ?_)
      · replace hf := (if_pos c4).symm.trans hf
        refine lv_iconst (v := iN 0) hx hb dX3_isBlockedBy_34 rfl ?_
        rw [← hQQ]
        exact x_zret hx hb hr (by decide) (Option.some.inj hf) (by decide) hlocks dX3_isBlockedBy_35
      · replace hf := (if_neg c4).symm.trans hf
        refine lv_iconst (v := iN 1) hx hb dX3_isBlockedBy_30 rfl ?_
        refine lv_goto (tgt := 35) hx hb dX3_isBlockedBy_31 (by decide) ?_
        rw [← hQQ]
        exact x_zret hx hb hr (by decide) (Option.some.inj hf) (by decide) hlocks dX3_isBlockedBy_35
def fX3_blockingPair_23_L18 (σ : Mem) (x1 : Int) (v2 : Int) (ex1 : Int → Int → Option Int) : Nat → Int → Int → Option Int
  | 0, _, _ => none
  | n1 + 1, v3, v4 => if v4 < (σ 1 4) then (fX3_isBlockedBy_23 σ v2 v4).bind fun v5 => if v5 = 0 then if rng (v4 + 1) then fX3_blockingPair_23_L18 σ x1 v2 ex1 n1 v3 (v4 + 1) else none else if v3 = x1 then if rng (8 * v2) then if rng ((8 * v2) + v4) then some ((8 * v2) + v4) else none else none else if rng (v3 + 1) then if rng (v4 + 1) then fX3_blockingPair_23_L18 σ x1 v2 ex1 n1 (v3 + 1) (v4 + 1) else none else none else ex1 v3 v4
def fX3_blockingPair_23_L4 (σ : Mem) (x1 : Int) (ex0 : Int → Int → Option Int) : Nat → Int → Int → Option Int
  | 0, _, _ => none
  | n0 + 1, v1, v2 => if v2 < (σ 1 3) then fX3_blockingPair_23_L18 σ x1 v2 (fun v14 v15 => if rng (v2 + 1) then fX3_blockingPair_23_L4 σ x1 ex0 n0 v14 (v2 + 1) else none) FU v1 0 else ex0 v1 v2
def fX3_blockingPair_23 (σ : Mem) (x1 : Int) : Option Int := fX3_blockingPair_23_L4 σ x1 (fun v18 v19 => some (-1)) FU 0 0
set_option maxHeartbeats 4000000 in
set_option maxRecDepth 100000 in
theorem kX3_blockingPair_23 (l : Launch) (dC : Nat → ClassId) (dI : Nat → Nat → Nat) (cI : ClassId) (cA : ClassId) (a : Nat → Nat) (σ : Mem) (x1 : Int) (r : Int) (hf : fX3_blockingPair_23 σ x1 = some r) (hR : Rg σ) (rx1 : rng x1) : Met l yX3_blockingPair wsX3_blockingPair ({ frames := 2, cells := 0, slots := 0, locals := 47 }) (va_Pc [.ref (a 23), .int (iN x1)] (preC dC dI cI cA a σ)) (qP r) 0 0 (fun _ => False) := by
  refine Met.ofW (cc := cX3_blockingPair) (maxL := 5) (ret := (some .int)) (by decide) rfl ?_
  intro p e s m args below meth c s₁ B hml hv
  obtain ⟨hargs, hP, hK, hN⟩ := hv
  have hx := B.exec
  have hb := B.bytes
  have hr := B.returns
  have hts := atoms_spec (ws := wsX3_blockingPair) B.pre
  have hown : s.vm.findClass RX3 = some m.cls := findClass_of_methodNamed B.named
  have hlocks := B.notSynchronized
  have iX1 : ∀ w ∈ wsX10, w ∈ wsX3_blockingPair := by decide +kernel
  have iX3 : ∀ w ∈ wsX30, w ∈ wsX3_blockingPair := by decide +kernel
  have fl15 := hts (.fieldLink RX3 15 "MatchHall$Matching" "hall" "LMatchHall$Hall;") (by decide +kernel)
  have fn28 := va_Nw.use (A := args) rfl (hN (.fieldLinkNest RX3 28 "MatchHall$Hall" "residents" "I" "MatchHall") (by decide +kernel))
  have fn56 := va_Nw.use (A := args) rfl (hN (.fieldLinkNest RX3 56 "MatchHall$Hall" "hospitals" "I" "MatchHall") (by decide +kernel))
  have hrm : 2 ≤ (headSpec wsX3_blockingPair ({ frames := 2, cells := 0, slots := 0, locals := 47 })).room.frames ∧ 47 ≤ (headSpec wsX3_blockingPair ({ frames := 2, cells := 0, slots := 0, locals := 47 })).room.locals := ⟨Nat.le_refl _, Nat.le_refl _⟩
  generalize (headSpec wsX3_blockingPair ({ frames := 2, cells := 0, slots := 0, locals := 47 })).room = RR at hrm ⊢
  have hl := lv_entry ([.ref (a 23), .int (iN x1)]) (n := 5) (Nat.le_of_ble_eq_true rfl)
  rw [show entryFrame m args 5 = entryFrame m ([.ref (a 23), .int (iN x1)] : List Value).toArray 5 from by rw [hargs], lg_entry_eq]
  generalize (lg_sl ([.ref (a 23), .int (iN x1)]) ++ List.replicate (5 - (lg_sl ([.ref (a 23), .int (iN x1)])).length) Slot.unset).toArray = ls at hl ⊢
  have hl : lv_has ls 5 [(0, .ref (a 23)), (1, .int (iN x1))] := hl
  generalize hQQ : MQ below (qP r) args s 0 0 (fun _ => False) = QQ
  refine lv_iconst (v := iN 0) hx hb dX3_blockingPair_0 rfl ?_
  refine lv_istore_n (lv' := [(2, .int (iN 0)), (0, .ref (a 23)), (1, .int (iN x1))]) hx hb dX3_blockingPair_1 rfl hl (by decide) rfl (fun ls hl => ?_)
  refine lv_iconst (v := iN 0) hx hb dX3_blockingPair_2 rfl ?_
  refine lv_istore_n (lv' := [(3, .int (iN 0)), (2, .int (iN 0)), (0, .ref (a 23)), (1, .int (iN x1))]) hx hb dX3_blockingPair_3 rfl hl (by decide) rfl (fun ls hl => ?_)
  have L_fX3_blockingPair_23_L4 : ∀ (EX0 : Int → Int → Option Int), (∀ (v1 : Int) (v2 : Int), rng v1 → rng v2 → EX0 v1 v2 = some r → ∀ ls, lv_has ls 5 [(0, .ref (a 23)), (1, .int (iN x1)), (2, .int (iN v1)), (3, .int (iN v2))] → W p l e RR s m args below meth c s.heap [] 0 0 QQ (F0 m 68 ls [])) → ∀ n0 : Nat, ∀ (v1 : Int) (v2 : Int), rng v1 → rng v2 → fX3_blockingPair_23_L4 σ x1 EX0 n0 v1 v2 = some r → ∀ ls, lv_has ls 5 [(0, .ref (a 23)), (1, .int (iN x1)), (2, .int (iN v1)), (3, .int (iN v2))] → W p l e RR s m args below meth c s.heap [] 0 0 QQ (F0 m 4 ls []) := by
    intro EX0 hEX0 n0
    induction n0 with
    | zero => intro _ _ _ _ hf; cases hf
    | succ n0 ih0 =>
      intro v1 v2 rv1 rv2 hf ls hl
      rw [fX3_blockingPair_23_L4] at hf
      refine lv_iload_n hx hb dX3_blockingPair_4 rfl (lv_at hl 3 rfl) ?_
      refine lv_aload_n hx hb dX3_blockingPair_5 rfl (lv_at hl 0 rfl) ?_
      refine x_get (C := RX3) (T := TX3) (NF := 2) (v := .ref (a 1)) hx hb hts iX3 hown hK hP 23 (by decide) (cE_23 cI cA a (_)) rfl 0 (by decide) fl15 rfl dX3_blockingPair_6 ?_
      refine x_getN (C := RX1) (T := TX1) (NF := 5) (v := .int (iN (σ 1 3))) hx hb hts iX1 hown hK hP 1 (by decide) (cE_1 cI cA a (_)) rfl 3 (by decide) fn28 rfl dX3_blockingPair_9 ?_
      refine x_icmp_ge (tgt := 68) hx hb rv2 (hR 1 3) dX3_blockingPair_12 (by decide) (fun c17 => ?_) (fun c17 => ?_)
      · replace hf := (if_neg c17).symm.trans hf
        exact hEX0 _ _ rv1 rv2 hf _ (lv_sub hl [0, 1, 2, 3] rfl)
      · replace hf := (if_pos c17).symm.trans hf
        refine lv_iconst (v := iN 0) hx hb dX3_blockingPair_15 rfl ?_
        refine lv_istore (lv' := [(4, .int (iN 0)), (0, .ref (a 23)), (1, .int (iN x1)), (2, .int (iN v1)), (3, .int (iN v2))]) hx hb dX3_blockingPair_16 hl (by decide) rfl (fun ls hl => ?_)
        have L_fX3_blockingPair_23_L18 : ∀ (EX1 : Int → Int → Option Int), (∀ (v3 : Int) (v4 : Int), rng v3 → rng v4 → EX1 v3 v4 = some r → ∀ ls, lv_has ls 5 [(0, .ref (a 23)), (1, .int (iN x1)), (2, .int (iN v3)), (3, .int (iN v2)), (4, .int (iN v4))] → W p l e RR s m args below meth c s.heap [] 0 0 QQ (F0 m 62 ls [])) → ∀ n1 : Nat, ∀ (v3 : Int) (v4 : Int), rng v3 → rng v4 → fX3_blockingPair_23_L18 σ x1 v2 EX1 n1 v3 v4 = some r → ∀ ls, lv_has ls 5 [(0, .ref (a 23)), (1, .int (iN x1)), (2, .int (iN v3)), (3, .int (iN v2)), (4, .int (iN v4))] → W p l e RR s m args below meth c s.heap [] 0 0 QQ (F0 m 18 ls []) := by
          intro EX1 hEX1 n1
          induction n1 with
          | zero => intro _ _ _ _ hf; cases hf
          | succ n1 ih1 =>
            intro v3 v4 rv3 rv4 hf ls hl
            rw [fX3_blockingPair_23_L18] at hf
            refine lv_iload hx hb dX3_blockingPair_18 (lv_at hl 4 rfl) ?_
            refine lv_aload_n hx hb dX3_blockingPair_20 rfl (lv_at hl 0 rfl) ?_
            refine x_get (C := RX3) (T := TX3) (NF := 2) (v := .ref (a 1)) hx hb hts iX3 hown hK hP 23 (by decide) (cE_23 cI cA a (_)) rfl 0 (by decide) fl15 rfl dX3_blockingPair_21 ?_
            refine x_getN (C := RX1) (T := TX1) (NF := 5) (v := .int (iN (σ 1 4))) hx hb hts iX1 hown hK hP 1 (by decide) (cE_1 cI cA a (_)) rfl 4 (by decide) fn56 rfl dX3_blockingPair_24 ?_
            refine x_icmp_ge (tgt := 62) hx hb rv4 (hR 1 4) dX3_blockingPair_27 (by decide) (fun c13 => ?_) (fun c13 => ?_)
            · replace hf := (if_neg c13).symm.trans hf
              exact hEX1 _ _ rv3 rv4 hf _ (lv_sub hl [0, 1, 2, 3, 4] rfl)
            · replace hf := (if_pos c13).symm.trans hf
              refine lv_aload_n hx hb dX3_blockingPair_30 rfl (lv_at hl 0 rfl) ?_
              refine lv_iload_n hx hb dX3_blockingPair_31 rfl (lv_at hl 3 rfl) ?_
              refine lv_iload hx hb dX3_blockingPair_32 (lv_at hl 4 rfl) ?_
              obtain ⟨v5, hv5, hf⟩ := bd hf
              refine x_callP (va_runV (As := [.int (iN v2), .int (iN v4)]) (rest := []) ⟨hx, hb, hml, hown, hts⟩ (kX3_isBlockedBy_23 l dC dI cI cA a σ v2 v4 v5 hv5 hR rv2 rv4) (cwV 2 hts gX3_blockingPair_X3_isBlockedBy rfl rfl rfl hX3_isBlockedBy_d ⟨Nat.le_trans (by decide) hrm.1, Nat.le_trans (by decide) hrm.2⟩) (pvC 23 (by decide) (cE_23 cI cA a (_)) rfl hP hK hN) rfl rfl hl.1 rfl (lv_room (Nat.le_of_ble_eq_true rfl)) dX3_blockingPair_34 ⟨Nat.zero_le _, Nat.zero_le _⟩) (fun rv5 => ?_)
              refine x_if_eq (tgt := 56) hx hb rv5 dX3_blockingPair_37 (by decide) (fun c12 => ?_) (fun c12 => ?_)
              · replace hf := (if_pos c12).symm.trans hf
                obtain ⟨g6, hf⟩ := gd hf
                refine lv_iinc (v := iN (v4 + 1)) (lv' := [(4, .int (iN (v4 + 1))), (0, .ref (a 23)), (1, .int (iN x1)), (2, .int (iN v3)), (3, .int (iN v2))]) hx hb dX3_blockingPair_56 hl (k := 4) rfl (iN_add v4 1) (by decide) rfl (fun ls hl => ?_)
                refine lv_goto (tgt := 18) hx hb dX3_blockingPair_59 (by decide) ?_
                exact ih1 _ _ rv3 g6 hf _ (lv_sub hl [1, 2, 3, 4, 0] rfl)
              · replace hf := (if_neg c12).symm.trans hf
                refine lv_iload_n hx hb dX3_blockingPair_40 rfl (lv_at hl 2 rfl) ?_
                refine lv_iload_n hx hb dX3_blockingPair_41 rfl (lv_at hl 1 rfl) ?_
                refine x_icmp_ne (tgt := 53) hx hb rv3 rx1 dX3_blockingPair_42 (by decide) (fun c11 => ?_) (fun c11 => ?_)
                · replace hf := (if_neg c11).symm.trans hf
                  obtain ⟨g7, hf⟩ := gd hf
                  refine lv_iinc (v := iN (v3 + 1)) (lv' := [(2, .int (iN (v3 + 1))), (0, .ref (a 23)), (1, .int (iN x1)), (3, .int (iN v2)), (4, .int (iN v4))]) hx hb dX3_blockingPair_53 hl (k := 2) rfl (iN_add v3 1) (by decide) rfl (fun ls hl => ?_)
                  obtain ⟨g8, hf⟩ := gd hf
                  refine lv_iinc (v := iN (v4 + 1)) (lv' := [(4, .int (iN (v4 + 1))), (2, .int (iN (v3 + 1))), (0, .ref (a 23)), (1, .int (iN x1)), (3, .int (iN v2))]) hx hb dX3_blockingPair_56 hl (k := 4) rfl (iN_add v4 1) (by decide) rfl (fun ls hl => ?_)
                  refine lv_goto (tgt := 18) hx hb dX3_blockingPair_59 (by decide) ?_
                  exact ih1 _ _ g7 g8 hf _ (lv_sub hl [2, 3, 1, 4, 0] rfl)
                · replace hf := (if_pos c11).symm.trans hf
                  refine lv_bipush (v := iN 8) hx hb dX3_blockingPair_45 (by decide) ?_
                  refine lv_iload_n hx hb dX3_blockingPair_47 rfl (lv_at hl 3 rfl) ?_
                  obtain ⟨g9, hf⟩ := gd hf
                  refine x_imul hx hb dX3_blockingPair_48 ?_
                  refine lv_iload hx hb dX3_blockingPair_49 (lv_at hl 4 rfl) ?_
                  obtain ⟨g10, hf⟩ := gd hf
                  refine x_iadd hx hb dX3_blockingPair_51 ?_
                  rw [← hQQ]
                  exact x_iret hx hb hr (Option.some.inj hf) g10 hlocks dX3_blockingPair_52
        refine L_fX3_blockingPair_23_L18 _ (fun v14 v15 rv14 rv15 hf ls hl => ?_) _ _ _ rv1 (by decide) hf _ (lv_sub hl [1, 2, 3, 4, 0] rfl)
        obtain ⟨g16, hf⟩ := gd hf
        refine lv_iinc (v := iN (v2 + 1)) (lv' := [(3, .int (iN (v2 + 1))), (0, .ref (a 23)), (1, .int (iN x1)), (2, .int (iN v14)), (4, .int (iN v15))]) hx hb dX3_blockingPair_62 hl (k := 3) rfl (iN_add v2 1) (by decide) rfl (fun ls hl => ?_)
        refine lv_goto (tgt := 4) hx hb dX3_blockingPair_65 (by decide) ?_
        exact ih0 _ _ rv14 g16 hf _ (lv_sub hl [1, 2, 3, 0] rfl)
  refine L_fX3_blockingPair_23_L4 _ (fun v18 v19 rv18 rv19 hf ls hl => ?_) _ _ _ (by decide) (by decide) hf _ (lv_sub hl [2, 3, 1, 0] rfl)
  refine lv_iconst (v := iN (-1)) hx hb dX3_blockingPair_68 rfl ?_
  rw [← hQQ]
  exact x_iret hx hb hr (Option.some.inj hf) (by decide) hlocks dX3_blockingPair_69
def fX3_isStable_23 (σ : Mem) : Option Int := (fX3_isMatching_23 σ ).bind fun v1 => if v1 = 0 then some 0 else (fX3_blockingPair_23 σ 0).bind fun v2 => if v2 = (-1) then some 1 else some 0
set_option maxHeartbeats 4000000 in
set_option maxRecDepth 100000 in
theorem kX3_isStable_23 (l : Launch) (dC : Nat → ClassId) (dI : Nat → Nat → Nat) (cI : ClassId) (cA : ClassId) (a : Nat → Nat) (σ : Mem) (r : Int) (hf : fX3_isStable_23 σ  = some r) (hR : Rg σ) : Met l yX3_isStable wsX3_isStable ({ frames := 3, cells := 0, slots := 0, locals := 71 }) (va_Pc [.ref (a 23)] (preC dC dI cI cA a σ)) (qP r) 0 0 (fun _ => False) := by
  refine Met.ofW (cc := cX3_isStable) (maxL := 1) (ret := (some .boolean)) (by decide) rfl ?_
  intro p e s m args below meth c s₁ B hml hv
  obtain ⟨hargs, hP, hK, hN⟩ := hv
  have hx := B.exec
  have hb := B.bytes
  have hr := B.returns
  have hts := atoms_spec (ws := wsX3_isStable) B.pre
  have hown : s.vm.findClass RX3 = some m.cls := findClass_of_methodNamed B.named
  have hlocks := B.notSynchronized
  have hrm : 3 ≤ (headSpec wsX3_isStable ({ frames := 3, cells := 0, slots := 0, locals := 71 })).room.frames ∧ 71 ≤ (headSpec wsX3_isStable ({ frames := 3, cells := 0, slots := 0, locals := 71 })).room.locals := ⟨Nat.le_refl _, Nat.le_refl _⟩
  generalize (headSpec wsX3_isStable ({ frames := 3, cells := 0, slots := 0, locals := 71 })).room = RR at hrm ⊢
  have hl := lv_entry ([.ref (a 23)]) (n := 1) (Nat.le_of_ble_eq_true rfl)
  rw [show entryFrame m args 1 = entryFrame m ([.ref (a 23)] : List Value).toArray 1 from by rw [hargs], lg_entry_eq]
  generalize (lg_sl ([.ref (a 23)]) ++ List.replicate (1 - (lg_sl ([.ref (a 23)])).length) Slot.unset).toArray = ls at hl ⊢
  have hl : lv_has ls 1 [(0, .ref (a 23))] := hl
  generalize hQQ : MQ below (qP r) args s 0 0 (fun _ => False) = QQ
  refine lv_aload_n hx hb dX3_isStable_0 rfl (lv_at hl 0 rfl) ?_
  obtain ⟨v1, hv1, hf⟩ := bd hf
  refine x_callP (va_runV (As := []) (rest := []) ⟨hx, hb, hml, hown, hts⟩ (kX3_isMatching_23 l dC dI cI cA a σ  v1 hv1 hR ) (cwV 0 hts gX3_isStable_X3_isMatching rfl rfl rfl hX3_isMatching_d ⟨Nat.le_trans (by decide) hrm.1, Nat.le_trans (by decide) hrm.2⟩) (pvC 23 (by decide) (cE_23 cI cA a (_)) rfl hP hK hN) rfl rfl hl.1 rfl (lv_room (Nat.le_of_ble_eq_true rfl)) dX3_isStable_1 ⟨Nat.zero_le _, Nat.zero_le _⟩) (fun rv1 => ?_)
  refine x_if_eq (tgt := 20) hx hb rv1 dX3_isStable_4 (by decide) (fun c4 => ?_) (fun c4 => ?_)
  · replace hf := (if_pos c4).symm.trans hf
    refine lv_iconst (v := iN 0) hx hb dX3_isStable_20 rfl ?_
    rw [← hQQ]
    exact x_zret hx hb hr (by decide) (Option.some.inj hf) (by decide) hlocks dX3_isStable_21
  · replace hf := (if_neg c4).symm.trans hf
    refine lv_aload_n hx hb dX3_isStable_7 rfl (lv_at hl 0 rfl) ?_
    refine lv_iconst (v := iN 0) hx hb dX3_isStable_8 rfl ?_
    obtain ⟨v2, hv2, hf⟩ := bd hf
    refine x_callP (va_runV (As := [.int (iN 0)]) (rest := []) ⟨hx, hb, hml, hown, hts⟩ (kX3_blockingPair_23 l dC dI cI cA a σ 0 v2 hv2 hR (by decide)) (cwV 1 hts gX3_isStable_X3_blockingPair rfl rfl rfl hX3_blockingPair_d ⟨Nat.le_trans (by decide) hrm.1, Nat.le_trans (by decide) hrm.2⟩) (pvC 23 (by decide) (cE_23 cI cA a (_)) rfl hP hK hN) rfl rfl hl.1 rfl (lv_room (Nat.le_of_ble_eq_true rfl)) dX3_isStable_9 ⟨Nat.zero_le _, Nat.zero_le _⟩) (fun rv2 => ?_)
    refine lv_iconst (v := iN (-1)) hx hb dX3_isStable_12 rfl ?_
    refine x_icmp_ne (tgt := 20) hx hb rv2 (by decide) dX3_isStable_13 (by decide) (fun c3 => ?_) (fun c3 => ?_)
    · replace hf := (if_neg c3).symm.trans hf
      refine lv_iconst (v := iN 0) hx hb dX3_isStable_20 rfl ?_
      rw [← hQQ]
      exact x_zret hx hb hr (by decide) (Option.some.inj hf) (by decide) hlocks dX3_isStable_21
    · replace hf := (if_pos c3).symm.trans hf
      refine lv_iconst (v := iN 1) hx hb dX3_isStable_16 rfl ?_
      refine lv_goto (tgt := 21) hx hb dX3_isStable_17 (by decide) ?_
      rw [← hQQ]
      exact x_zret hx hb hr (by decide) (Option.some.inj hf) (by decide) hlocks dX3_isStable_21
def fX4_isKnownByDone_28_L2 (σ : Mem) (x1 : Int) (ex0 : Int → Option Int) : Nat → Int → Option Int
  | 0, _ => none
  | n0 + 1, v1 => if v1 < (σ 25 3) then if v1 = x1 then if rng (v1 + 1) then fX4_isKnownByDone_28_L2 σ x1 ex0 n0 (v1 + 1) else none else if (0 : Int) ≤ v1 ∧ (v1 : Int) < 216 then if (0 : Int) ≤ x1 ∧ (x1 : Int) < 216 then if (σ 32 v1) = (σ 32 x1) then some 0 else if rng (v1 + 1) then fX4_isKnownByDone_28_L2 σ x1 ex0 n0 (v1 + 1) else none else none else none else ex0 v1
def fX4_isKnownByDone_28 (σ : Mem) (x1 : Int) : Option Int := fX4_isKnownByDone_28_L2 σ x1 (fun v9 => some 1) FU 0
set_option maxHeartbeats 4000000 in
set_option maxRecDepth 100000 in
theorem kX4_isKnownByDone_28 (l : Launch) (dC : Nat → ClassId) (dI : Nat → Nat → Nat) (cI : ClassId) (cA : ClassId) (a : Nat → Nat) (σ : Mem) (x1 : Int) (r : Int) (hf : fX4_isKnownByDone_28 σ x1 = some r) (hR : Rg σ) (rx1 : rng x1) : Met l yX4_isKnownByDone wsX4_isKnownByDone ({ frames := 0, cells := 0, slots := 0, locals := 0 }) (va_Pc [.ref (a 28), .int (iN x1)] (preC dC dI cI cA a σ)) (qP r) 0 0 (fun _ => False) := by
  refine Met.ofW (cc := cX4_isKnownByDone) (maxL := 3) (ret := (some .boolean)) (by decide) rfl ?_
  intro p e s m args below meth c s₁ B hml hv
  obtain ⟨hargs, hP, hK, hN⟩ := hv
  have hx := B.exec
  have hb := B.bytes
  have hr := B.returns
  have hts := atoms_spec (ws := wsX4_isKnownByDone) B.pre
  have hown : s.vm.findClass RX4 = some m.cls := findClass_of_methodNamed B.named
  have hlocks := B.notSynchronized
  have iX4 : ∀ w ∈ wsX40, w ∈ wsX4_isKnownByDone := by decide +kernel
  have iX5 : ∀ w ∈ wsX50, w ∈ wsX4_isKnownByDone := by decide +kernel
  have fl21 := hts (.fieldLink RX4 21 "MatchHall$Rotations" "doneIn" "[I") (by decide +kernel)
  have fl24 := hts (.fieldLink RX4 24 "MatchHall$Rotations" "stables" "LMatchHall$Stables;") (by decide +kernel)
  have fn32 := va_Nw.use (A := args) rfl (hN (.fieldLinkNest RX4 32 "MatchHall$Stables" "size" "I" "MatchHall") (by decide +kernel))
  have hrm : 0 ≤ (headSpec wsX4_isKnownByDone ({ frames := 0, cells := 0, slots := 0, locals := 0 })).room.frames ∧ 0 ≤ (headSpec wsX4_isKnownByDone ({ frames := 0, cells := 0, slots := 0, locals := 0 })).room.locals := ⟨Nat.le_refl _, Nat.le_refl _⟩
  generalize (headSpec wsX4_isKnownByDone ({ frames := 0, cells := 0, slots := 0, locals := 0 })).room = RR at hrm ⊢
  have hl := lv_entry ([.ref (a 28), .int (iN x1)]) (n := 3) (Nat.le_of_ble_eq_true rfl)
  rw [show entryFrame m args 3 = entryFrame m ([.ref (a 28), .int (iN x1)] : List Value).toArray 3 from by rw [hargs], lg_entry_eq]
  generalize (lg_sl ([.ref (a 28), .int (iN x1)]) ++ List.replicate (3 - (lg_sl ([.ref (a 28), .int (iN x1)])).length) Slot.unset).toArray = ls at hl ⊢
  have hl : lv_has ls 3 [(0, .ref (a 28)), (1, .int (iN x1))] := hl
  generalize hQQ : MQ below (qP r) args s 0 0 (fun _ => False) = QQ
  refine lv_iconst (v := iN 0) hx hb dX4_isKnownByDone_0 rfl ?_
  refine lv_istore_n (lv' := [(2, .int (iN 0)), (0, .ref (a 28)), (1, .int (iN x1))]) hx hb dX4_isKnownByDone_1 rfl hl (by decide) rfl (fun ls hl => ?_)
  have L_fX4_isKnownByDone_28_L2 : ∀ (EX0 : Int → Option Int), (∀ (v1 : Int), rng v1 → EX0 v1 = some r → ∀ ls, lv_has ls 3 [(0, .ref (a 28)), (1, .int (iN x1)), (2, .int (iN v1))] → W p l e RR s m args below meth c s.heap [] 0 0 QQ (F0 m 41 ls [])) → ∀ n0 : Nat, ∀ (v1 : Int), rng v1 → fX4_isKnownByDone_28_L2 σ x1 EX0 n0 v1 = some r → ∀ ls, lv_has ls 3 [(0, .ref (a 28)), (1, .int (iN x1)), (2, .int (iN v1))] → W p l e RR s m args below meth c s.heap [] 0 0 QQ (F0 m 2 ls []) := by
    intro EX0 hEX0 n0
    induction n0 with
    | zero => intro _ _ hf; cases hf
    | succ n0 ih0 =>
      intro v1 rv1 hf ls hl
      rw [fX4_isKnownByDone_28_L2] at hf
      refine lv_iload_n hx hb dX4_isKnownByDone_2 rfl (lv_at hl 2 rfl) ?_
      refine lv_aload_n hx hb dX4_isKnownByDone_3 rfl (lv_at hl 0 rfl) ?_
      refine x_get (C := RX4) (T := TX4) (NF := 6) (v := .ref (a 25)) hx hb hts iX4 hown hK hP 28 (by decide) (cE_28 cI cA a (_)) rfl 0 (by decide) fl24 rfl dX4_isKnownByDone_4 ?_
      refine x_getN (C := RX5) (T := TX5) (NF := 4) (v := .int (iN (σ 25 3))) hx hb hts iX5 hown hK hP 25 (by decide) (cE_25 cI cA a (_)) rfl 3 (by decide) fn32 rfl dX4_isKnownByDone_7 ?_
      refine x_icmp_ge (tgt := 41) hx hb rv1 (hR 25 3) dX4_isKnownByDone_10 (by decide) (fun c8 => ?_) (fun c8 => ?_)
      · replace hf := (if_neg c8).symm.trans hf
        exact hEX0 _ rv1 hf _ (lv_sub hl [0, 1, 2] rfl)
      · replace hf := (if_pos c8).symm.trans hf
        refine lv_iload_n hx hb dX4_isKnownByDone_13 rfl (lv_at hl 2 rfl) ?_
        refine lv_iload_n hx hb dX4_isKnownByDone_14 rfl (lv_at hl 1 rfl) ?_
        refine x_icmp_eq (tgt := 35) hx hb rv1 rx1 dX4_isKnownByDone_15 (by decide) (fun c7 => ?_) (fun c7 => ?_)
        · replace hf := (if_pos c7).symm.trans hf
          obtain ⟨g2, hf⟩ := gd hf
          refine lv_iinc (v := iN (v1 + 1)) (lv' := [(2, .int (iN (v1 + 1))), (0, .ref (a 28)), (1, .int (iN x1))]) hx hb dX4_isKnownByDone_35 hl (k := 2) rfl (iN_add v1 1) (by decide) rfl (fun ls hl => ?_)
          refine lv_goto (tgt := 2) hx hb dX4_isKnownByDone_38 (by decide) ?_
          exact ih0 _ g2 hf _ (lv_sub hl [1, 2, 0] rfl)
        · replace hf := (if_neg c7).symm.trans hf
          refine lv_aload_n hx hb dX4_isKnownByDone_18 rfl (lv_at hl 0 rfl) ?_
          refine x_get (C := RX4) (T := TX4) (NF := 6) (v := .ref (a 32)) hx hb hts iX4 hown hK hP 28 (by decide) (cE_28 cI cA a (_)) rfl 4 (by decide) fl21 rfl dX4_isKnownByDone_19 ?_
          refine lv_iload_n hx hb dX4_isKnownByDone_22 rfl (lv_at hl 2 rfl) ?_
          obtain ⟨g3, hf⟩ := gd hf
          refine x_iald hx hb hK hP 32 0 (by decide) (cE_32 cI cA a (_)) (by decide) rfl g3 dX4_isKnownByDone_23 ?_
          refine lv_aload_n hx hb dX4_isKnownByDone_24 rfl (lv_at hl 0 rfl) ?_
          refine x_get (C := RX4) (T := TX4) (NF := 6) (v := .ref (a 32)) hx hb hts iX4 hown hK hP 28 (by decide) (cE_28 cI cA a (_)) rfl 4 (by decide) fl21 rfl dX4_isKnownByDone_25 ?_
          refine lv_iload_n hx hb dX4_isKnownByDone_28 rfl (lv_at hl 1 rfl) ?_
          obtain ⟨g4, hf⟩ := gd hf
          refine x_iald hx hb hK hP 32 0 (by decide) (cE_32 cI cA a (_)) (by decide) rfl g4 dX4_isKnownByDone_29 ?_
          refine x_icmp_ne (tgt := 35) hx hb (hR 32 v1) (hR 32 x1) dX4_isKnownByDone_30 (by decide) (fun c6 => ?_) (fun c6 => ?_)
          · replace hf := (if_neg c6).symm.trans hf
            obtain ⟨g5, hf⟩ := gd hf
            refine lv_iinc (v := iN (v1 + 1)) (lv' := [(2, .int (iN (v1 + 1))), (0, .ref (a 28)), (1, .int (iN x1))]) hx hb dX4_isKnownByDone_35 hl (k := 2) rfl (iN_add v1 1) (by decide) rfl (fun ls hl => ?_)
            refine lv_goto (tgt := 2) hx hb dX4_isKnownByDone_38 (by decide) ?_
            exact ih0 _ g5 hf _ (lv_sub hl [1, 2, 0] rfl)
          · replace hf := (if_pos c6).symm.trans hf
            refine lv_iconst (v := iN 0) hx hb dX4_isKnownByDone_33 rfl ?_
            rw [← hQQ]
            exact x_zret hx hb hr (by decide) (Option.some.inj hf) (by decide) hlocks dX4_isKnownByDone_34
  refine L_fX4_isKnownByDone_28_L2 _ (fun v9 rv9 hf ls hl => ?_) _ _ (by decide) hf _ (lv_sub hl [1, 2, 0] rfl)
  refine lv_iconst (v := iN 1) hx hb dX4_isKnownByDone_41 rfl ?_
  rw [← hQQ]
  exact x_zret hx hb hr (by decide) (Option.some.inj hf) (by decide) hlocks dX4_isKnownByDone_42
def fX6_check_0_L11 (ex0 : Mem → Int → Option (Int × Mem)) : Nat → Mem → Int → Option (Int × Mem)
  | 0, _, _ => none
  | n0 + 1, σ3, v2 => if v2 < (σ3 25 3) then bnd2 (fX5_copyTo_25_23 σ3 v2) fun v4 σ5 => (fX3_isStable_23 σ5 ).bind fun v6 => if v6 = 0 then some (0, σ5) else (fX4_isKnownByDone_28 σ5 v2).bind fun v7 => if v7 = 0 then some (0, σ5) else if rng (v2 + 1) then fX6_check_0_L11  ex0 n0 σ5 (v2 + 1) else none else ex0 σ3 v2
def fX6_check_0 (σ : Mem) : Option (Int × Mem) := (fX6_isWorked_0 σ ).bind fun v1 => if v1 = 0 then some ((-1), σ) else fX6_check_0_L11  (fun σ13 v12 => some (1, σ13)) FU σ 0
set_option maxHeartbeats 4000000 in
set_option maxRecDepth 100000 in
theorem kX6_check_0 (l : Launch) (dC : Nat → ClassId) (dI : Nat → Nat → Nat) (cI : ClassId) (cA : ClassId) (a : Nat → Nat) (hi : ∀ i j, i < 37 → j < 37 → a i = a j → i = j) (σ : Mem) (r : (Int × Mem)) (hf : fX6_check_0 σ  = some r) (hR : Rg σ) : Met l yX6_check wsX6_check ({ frames := 4, cells := 0, slots := 0, locals := 91 }) (va_Pc [.ref (a 0)] (preC dC dI cI cA a σ)) (qM (dC, dI) (gw 37 a (cE cI cA a)) (gA 37 a) r) 0 0 (gA 37 a) := by
  refine Met.ofW (cc := cX6_check) (maxL := 2) (ret := (some .int)) (by decide) rfl ?_
  intro p e s m args below meth c s₁ B hml hv
  obtain ⟨hargs, hP, hK, hN⟩ := hv
  have hx := B.exec
  have hb := B.bytes
  have hr := B.returns
  have hts := atoms_spec (ws := wsX6_check) B.pre
  have hown : s.vm.findClass RX6 = some m.cls := findClass_of_methodNamed B.named
  have hlocks := B.notSynchronized
  have hS : va_S (gA 37 a) s.heap s.heap [] := va_S.rf
  have iX5 : ∀ w ∈ wsX50, w ∈ wsX6_check := by decide +kernel
  have iX6 : ∀ w ∈ wsX60, w ∈ wsX6_check := by decide +kernel
  have fl25 := hts (.fieldLink RX6 25 "MatchHall" "scratch" "LMatchHall$Matching;") (by decide +kernel)
  have fl31 := hts (.fieldLink RX6 31 "MatchHall" "stables" "LMatchHall$Stables;") (by decide +kernel)
  have fl40 := hts (.fieldLink RX6 40 "MatchHall" "rotations" "LMatchHall$Rotations;") (by decide +kernel)
  have fn105 := va_Nw.use (A := args) rfl (hN (.fieldLinkNest RX6 105 "MatchHall$Stables" "size" "I" "MatchHall") (by decide +kernel))
  have hrm : 4 ≤ (headSpec wsX6_check ({ frames := 4, cells := 0, slots := 0, locals := 91 })).room.frames ∧ 91 ≤ (headSpec wsX6_check ({ frames := 4, cells := 0, slots := 0, locals := 91 })).room.locals := ⟨Nat.le_refl _, Nat.le_refl _⟩
  generalize (headSpec wsX6_check ({ frames := 4, cells := 0, slots := 0, locals := 91 })).room = RR at hrm ⊢
  have hl := lv_entry ([.ref (a 0)]) (n := 2) (Nat.le_of_ble_eq_true rfl)
  rw [show entryFrame m args 2 = entryFrame m ([.ref (a 0)] : List Value).toArray 2 from by rw [hargs], lg_entry_eq]
  generalize (lg_sl ([.ref (a 0)]) ++ List.replicate (2 - (lg_sl ([.ref (a 0)])).length) Slot.unset).toArray = ls at hl ⊢
  have hl : lv_has ls 2 [(0, .ref (a 0))] := hl
  generalize hQQ : MQ below (qM (dC, dI) (gw 37 a (cE cI cA a)) (gA 37 a) r) args s 0 0 (gA 37 a) = QQ
  refine lv_aload_n hx hb dX6_check_0 rfl (lv_at hl 0 rfl) ?_
  obtain ⟨v1, hv1, hf⟩ := bd hf
  refine x_callP (va_runV (As := []) (rest := []) ⟨hx, hb, hml, hown, hts⟩ (kX6_isWorked_0 l dC dI cI cA a σ  v1 hv1 hR ) (cwV 0 hts gX6_check_X6_isWorked rfl rfl rfl hX6_isWorked_d ⟨Nat.le_trans (by decide) hrm.1, Nat.le_trans (by decide) hrm.2⟩) (pvC 0 (by decide) (cE_0 cI cA a (_)) rfl hP hK hN) rfl rfl hl.1 rfl (lv_room (Nat.le_of_ble_eq_true rfl)) dX6_check_1 ⟨Nat.zero_le _, Nat.zero_le _⟩) (fun rv1 => ?_)
  refine x_if_ne (tgt := 9) hx hb rv1 dX6_check_4 (by decide) (fun c14 => ?_) (fun c14 => ?_)
  · replace hf := (if_neg c14).symm.trans hf
    refine lv_iconst (v := iN 0) hx hb dX6_check_9 rfl ?_
    refine lv_istore_n (lv' := [(1, .int (iN 0)), (0, .ref (a 0))]) hx hb dX6_check_10 rfl hl (by decide) rfl (fun ls hl => ?_)
    have L_fX6_check_0_L11 : ∀ (EX0 : Mem → Int → Option (Int × Mem)), (∀ (σ3 : Mem) (v2 : Int), Rg σ3 → rng v2 → EX0 σ3 v2 = some r → ∀ H locs ls, va_P (dC, dI) vwCl (gw 37 a (cE cI cA a) σ3) H → va_S (gA 37 a) s.heap H locs → lv_has ls 2 [(0, .ref (a 0)), (1, .int (iN v2))] → W p l e RR s m args below meth c H locs 0 0 QQ (F0 m 63 ls [])) → ∀ n0 : Nat, ∀ (σ3 : Mem) (v2 : Int), Rg σ3 → rng v2 → fX6_check_0_L11  EX0 n0 σ3 v2 = some r → ∀ H locs ls, va_P (dC, dI) vwCl (gw 37 a (cE cI cA a) σ3) H → va_S (gA 37 a) s.heap H locs → lv_has ls 2 [(0, .ref (a 0)), (1, .int (iN v2))] → W p l e RR s m args below meth c H locs 0 0 QQ (F0 m 11 ls []) := by
      intro EX0 hEX0 n0
      induction n0 with
      | zero => intro _ _ _ _ hf; cases hf
      | succ n0 ih0 =>
        intro σ3 v2 hRσ3 rv2 hf H locs ls hP hS hl
        rw [fX6_check_0_L11] at hf
        refine lv_iload_n hx hb dX6_check_11 rfl (lv_at hl 1 rfl) ?_
        refine lv_aload_n hx hb dX6_check_12 rfl (lv_at hl 0 rfl) ?_
        refine x_get (C := RX6) (T := TX6) (NF := 6) (v := .ref (a 25)) hx hb hts iX6 hown hK hP 0 (by decide) (cE_0 cI cA a (_)) rfl 3 (by decide) fl31 rfl dX6_check_13 ?_
        refine x_getN (C := RX5) (T := TX5) (NF := 4) (v := .int (iN (σ3 25 3))) hx hb hts iX5 hown hK hP 25 (by decide) (cE_25 cI cA a (_)) rfl 3 (by decide) fn105 rfl dX6_check_16 ?_
        refine x_icmp_ge (tgt := 63) hx hb rv2 (hRσ3 25 3) dX6_check_19 (by decide) (fun c11 => ?_) (fun c11 => ?_)
        · replace hf := (if_neg c11).symm.trans hf
          exact hEX0 _ _ hRσ3 rv2 hf _ _ _ hP hS (lv_sub hl [0, 1] rfl)
        · replace hf := (if_pos c11).symm.trans hf
          refine lv_aload_n hx hb dX6_check_22 rfl (lv_at hl 0 rfl) ?_
          refine x_get (C := RX6) (T := TX6) (NF := 6) (v := .ref (a 25)) hx hb hts iX6 hown hK hP 0 (by decide) (cE_0 cI cA a (_)) rfl 3 (by decide) fl31 rfl dX6_check_23 ?_
          refine lv_aload_n hx hb dX6_check_26 rfl (lv_at hl 0 rfl) ?_
          refine x_get (C := RX6) (T := TX6) (NF := 6) (v := .ref (a 23)) hx hb hts iX6 hown hK hP 0 (by decide) (cE_0 cI cA a (_)) rfl 2 (by decide) fl25 rfl dX6_check_27 ?_
          refine lv_iload_n hx hb dX6_check_30 rfl (lv_at hl 1 rfl) ?_
          obtain ⟨v4, σ5, hv4, hf⟩ := bd2 hf
          refine x_callMv (va_runV (As := [.ref (a 23), .int (iN v2)]) (rest := []) ⟨hx, hb, hml, hown, hts⟩ (kX5_copyTo_25_23 l dC dI cI cA a hi σ3 v2 (v4, σ5) hv4 hRσ3 rv2) (cwV 2 hts gX6_check_X5_copyTo rfl rfl rfl hX5_copyTo_d ⟨Nat.le_trans (by decide) hrm.1, Nat.le_trans (by decide) hrm.2⟩) (pvC 25 (by decide) (cE_25 cI cA a (_)) rfl hP hK hN) rfl rfl hl.1 rfl (lv_room (Nat.le_of_ble_eq_true rfl)) dX6_check_31 ⟨Nat.zero_le _, Nat.zero_le _⟩) hS (fun rv4 hRσ5 H locs hP hS => ?_)
          refine lv_aload_n hx hb dX6_check_34 rfl (lv_at hl 0 rfl) ?_
          refine x_get (C := RX6) (T := TX6) (NF := 6) (v := .ref (a 23)) hx hb hts iX6 hown hK hP 0 (by decide) (cE_0 cI cA a (_)) rfl 2 (by decide) fl25 rfl dX6_check_35 ?_
          obtain ⟨v6, hv6, hf⟩ := bd hf
          refine x_callP (va_runV (As := []) (rest := []) ⟨hx, hb, hml, hown, hts⟩ (kX3_isStable_23 l dC dI cI cA a σ5  v6 hv6 hRσ5 ) (cwV 0 hts gX6_check_X3_isStable rfl rfl rfl hX3_isStable_d ⟨Nat.le_trans (by decide) hrm.1, Nat.le_trans (by decide) hrm.2⟩) (pvC 23 (by decide) (cE_23 cI cA a (_)) rfl hP hK hN) rfl rfl hl.1 rfl (lv_room (Nat.le_of_ble_eq_true rfl)) dX6_check_38 ⟨Nat.zero_le _, Nat.zero_le _⟩) (fun rv6 => ?_)
          refine x_if_eq (tgt := 55) hx hb rv6 dX6_check_41 (by decide) (fun c10 => ?_) (fun c10 => ?_)
          · replace hf := (if_pos c10).symm.trans hf
            refine lv_iconst (v := iN 0) hx hb dX6_check_55 rfl ?_
            rw [← hQQ]
            exact x_iretM hx hb hr (Option.some.inj hf) (by decide) hRσ5 hP hS hlocks dX6_check_56
          · replace hf := (if_neg c10).symm.trans hf
            refine lv_aload_n hx hb dX6_check_44 rfl (lv_at hl 0 rfl) ?_
            refine x_get (C := RX6) (T := TX6) (NF := 6) (v := .ref (a 28)) hx hb hts iX6 hown hK hP 0 (by decide) (cE_0 cI cA a (_)) rfl 4 (by decide) fl40 rfl dX6_check_45 ?_
            refine lv_iload_n hx hb dX6_check_48 rfl (lv_at hl 1 rfl) ?_
            obtain ⟨v7, hv7, hf⟩ := bd hf
            refine x_callP (va_runV (As := [.int (iN v2)]) (rest := []) ⟨hx, hb, hml, hown, hts⟩ (kX4_isKnownByDone_28 l dC dI cI cA a σ5 v2 v7 hv7 hRσ5 rv2) (cwV 1 hts gX6_check_X4_isKnownByDone rfl rfl rfl hX4_isKnownByDone_d ⟨Nat.le_trans (by decide) hrm.1, Nat.le_trans (by decide) hrm.2⟩) (pvC 28 (by decide) (cE_28 cI cA a (_)) rfl hP hK hN) rfl rfl hl.1 rfl (lv_room (Nat.le_of_ble_eq_true rfl)) dX6_check_49 ⟨Nat.zero_le _, Nat.zero_le _⟩) (fun rv7 => ?_)
            refine x_if_ne (tgt := 57) hx hb rv7 dX6_check_52 (by decide) (fun c9 => ?_) (fun c9 => ?_)
            · replace hf := (if_neg c9).symm.trans hf
              obtain ⟨g8, hf⟩ := gd hf
              refine lv_iinc (v := iN (v2 + 1)) (lv' := [(1, .int (iN (v2 + 1))), (0, .ref (a 0))]) hx hb dX6_check_57 hl (k := 1) rfl (iN_add v2 1) (by decide) rfl (fun ls hl => ?_)
              refine lv_goto (tgt := 11) hx hb dX6_check_60 (by decide) ?_
              exact ih0 _ _ hRσ5 g8 hf _ _ _ hP hS (lv_sub hl [1, 0] rfl)
            · replace hf := (if_pos c9).symm.trans hf
              refine lv_iconst (v := iN 0) hx hb dX6_check_55 rfl ?_
              rw [← hQQ]
              exact x_iretM hx hb hr (Option.some.inj hf) (by decide) hRσ5 hP hS hlocks dX6_check_56
    refine L_fX6_check_0_L11 _ (fun σ13 v12 hRσ13 rv12 hf H locs ls hP hS hl => ?_) _ _ _ hR (by decide) hf _ _ _ hP hS (lv_sub hl [1, 0] rfl)
    refine lv_iconst (v := iN 1) hx hb dX6_check_63 rfl ?_
    rw [← hQQ]
    exact x_iretM hx hb hr (Option.some.inj hf) (by decide) hRσ13 hP hS hlocks dX6_check_64
  · replace hf := (if_pos c14).symm.trans hf
    refine lv_iconst (v := iN (-1)) hx hb dX6_check_7 rfl ?_
    rw [← hQQ]
    exact x_iretM hx hb hr (Option.some.inj hf) (by decide) hR hP hS hlocks dX6_check_8
def fX1_hasHospital_1 (σ : Mem) (x1 : Int) : Option Int := if x1 < 0 then some 0 else if x1 < (σ 1 4) then some 1 else some 0
set_option maxHeartbeats 4000000 in
set_option maxRecDepth 100000 in
theorem kX1_hasHospital_1 (l : Launch) (dC : Nat → ClassId) (dI : Nat → Nat → Nat) (cI : ClassId) (cA : ClassId) (a : Nat → Nat) (σ : Mem) (x1 : Int) (r : Int) (hf : fX1_hasHospital_1 σ x1 = some r) (hR : Rg σ) (rx1 : rng x1) : Met l yX1_hasHospital wsX1_hasHospital ({ frames := 0, cells := 0, slots := 0, locals := 0 }) (va_Pc [.ref (a 1), .int (iN x1)] (preC dC dI cI cA a σ)) (qP r) 0 0 (fun _ => False) := by
  refine Met.ofW (cc := cX1_hasHospital) (maxL := 2) (ret := (some .boolean)) (by decide) rfl ?_
  intro p e s m args below meth c s₁ B hml hv
  obtain ⟨hargs, hP, hK, hN⟩ := hv
  have hx := B.exec
  have hb := B.bytes
  have hr := B.returns
  have hts := atoms_spec (ws := wsX1_hasHospital) B.pre
  have hown : s.vm.findClass RX1 = some m.cls := findClass_of_methodNamed B.named
  have hlocks := B.notSynchronized
  have iX1 : ∀ w ∈ wsX10, w ∈ wsX1_hasHospital := by decide +kernel
  have fl33 := hts (.fieldLink RX1 33 "MatchHall$Hall" "hospitals" "I") (by decide +kernel)
  have hrm : 0 ≤ (headSpec wsX1_hasHospital ({ frames := 0, cells := 0, slots := 0, locals := 0 })).room.frames ∧ 0 ≤ (headSpec wsX1_hasHospital ({ frames := 0, cells := 0, slots := 0, locals := 0 })).room.locals := ⟨Nat.le_refl _, Nat.le_refl _⟩
  generalize (headSpec wsX1_hasHospital ({ frames := 0, cells := 0, slots := 0, locals := 0 })).room = RR at hrm ⊢
  have hl := lv_entry ([.ref (a 1), .int (iN x1)]) (n := 2) (Nat.le_of_ble_eq_true rfl)
  rw [show entryFrame m args 2 = entryFrame m ([.ref (a 1), .int (iN x1)] : List Value).toArray 2 from by rw [hargs], lg_entry_eq]
  generalize (lg_sl ([.ref (a 1), .int (iN x1)]) ++ List.replicate (2 - (lg_sl ([.ref (a 1), .int (iN x1)])).length) Slot.unset).toArray = ls at hl ⊢
  have hl : lv_has ls 2 [(0, .ref (a 1)), (1, .int (iN x1))] := hl
  generalize hQQ : MQ below (qP r) args s 0 0 (fun _ => False) = QQ
  refine lv_iload_n hx hb dX1_hasHospital_0 rfl (lv_at hl 1 rfl) ?_
  refine x_if_lt (tgt := 16) hx hb rx1 dX1_hasHospital_1 (by decide) (fun c2 => ?_) (fun c2 => ?_)
  · replace hf := (if_pos c2).symm.trans hf
    refine lv_iconst (v := iN 0) hx hb dX1_hasHospital_16 rfl ?_
    rw [← hQQ]
    exact x_zret hx hb hr (by decide) (Option.some.inj hf) (by decide) hlocks dX1_hasHospital_17
  · replace hf := (if_neg c2).symm.trans hf
    refine lv_iload_n hx hb dX1_hasHospital_4 rfl (lv_at hl 1 rfl) ?_
    refine lv_aload_n hx hb dX1_hasHospital_5 rfl (lv_at hl 0 rfl) ?_
    refine x_get (C := RX1) (T := TX1) (NF := 5) (v := .int (iN (σ 1 4))) hx hb hts iX1 hown hK hP 1 (by decide) (cE_1 cI cA a (_)) rfl 4 (by decide) fl33 rfl dX1_hasHospital_6 ?_
    refine x_icmp_ge (tgt := 16) hx hb rx1 (hR 1 4) dX1_hasHospital_9 (by decide) (fun c1 => ?_) (fun c1 => ?_)
    · replace hf := (if_neg c1).symm.trans hf
      refine lv_iconst (v := iN 0) hx hb dX1_hasHospital_16 rfl ?_
      rw [← hQQ]
      exact x_zret hx hb hr (by decide) (Option.some.inj hf) (by decide) hlocks dX1_hasHospital_17
    · replace hf := (if_pos c1).symm.trans hf
      refine lv_iconst (v := iN 1) hx hb dX1_hasHospital_12 rfl ?_
      refine lv_goto (tgt := 17) hx hb dX1_hasHospital_13 (by decide) ?_
      rw [← hQQ]
      exact x_zret hx hb hr (by decide) (Option.some.inj hf) (by decide) hlocks dX1_hasHospital_17
def fX2_open_2_L12 (ex0 : Mem → Int → Option (Int × Mem)) : Nat → Mem → Int → Option (Int × Mem)
  | 0, _, _ => none
  | n0 + 1, σ4, v3 => if v3 < 6 then bnd2 (fX2_empty_2 σ4 v3) fun v5 σ6 => if rng (v3 + 1) then fX2_open_2_L12  ex0 n0 σ6 (v3 + 1) else none else ex0 σ4 v3
def fX2_open_2 (σ : Mem) (x1 : Int) (x2 : Int) : Option (Int × Mem) := nx (mup σ 2 2 x1) fun σ1 => nx (mup σ1 2 3 x2) fun σ2 => fX2_open_2_L12  (fun σ10 v9 => some (0, σ10)) FU σ2 0
set_option maxHeartbeats 4000000 in
set_option maxRecDepth 100000 in
theorem kX2_open_2 (l : Launch) (dC : Nat → ClassId) (dI : Nat → Nat → Nat) (cI : ClassId) (cA : ClassId) (a : Nat → Nat) (hi : ∀ i j, i < 37 → j < 37 → a i = a j → i = j) (σ : Mem) (x1 : Int) (x2 : Int) (r : (Int × Mem)) (hf : fX2_open_2 σ x1 x2 = some r) (hR : Rg σ) (rx1 : rng x1) (rx2 : rng x2) : Met l yX2_open wsX2_open ({ frames := 2, cells := 0, slots := 0, locals := 45 }) (va_Pc [.ref (a 2), .int (iN x1), .int (iN x2)] (preC dC dI cI cA a σ)) (qMv (dC, dI) (gw 37 a (cE cI cA a)) (gA 37 a) r) 0 0 (gA 37 a) := by
  refine Met.ofW (cc := cX2_open) (maxL := 4) (ret := none) (by decide) rfl ?_
  intro p e s m args below meth c s₁ B hml hv
  obtain ⟨hargs, hP, hK, hN⟩ := hv
  have hx := B.exec
  have hb := B.bytes
  have hr := B.returns
  have hts := atoms_spec (ws := wsX2_open) B.pre
  have hown : s.vm.findClass RX2 = some m.cls := findClass_of_methodNamed B.named
  have hlocks := B.notSynchronized
  have hS : va_S (gA 37 a) s.heap s.heap [] := va_S.rf
  have iX2 : ∀ w ∈ wsX20, w ∈ wsX2_open := by decide +kernel
  have fl20 := hts (.fieldLink RX2 20 "MatchHall$Lists" "owners" "I") (by decide +kernel)
  have fl24 := hts (.fieldLink RX2 24 "MatchHall$Lists" "others" "I") (by decide +kernel)
  have hrm : 2 ≤ (headSpec wsX2_open ({ frames := 2, cells := 0, slots := 0, locals := 45 })).room.frames ∧ 45 ≤ (headSpec wsX2_open ({ frames := 2, cells := 0, slots := 0, locals := 45 })).room.locals := ⟨Nat.le_refl _, Nat.le_refl _⟩
  generalize (headSpec wsX2_open ({ frames := 2, cells := 0, slots := 0, locals := 45 })).room = RR at hrm ⊢
  have hl := lv_entry ([.ref (a 2), .int (iN x1), .int (iN x2)]) (n := 4) (Nat.le_of_ble_eq_true rfl)
  rw [show entryFrame m args 4 = entryFrame m ([.ref (a 2), .int (iN x1), .int (iN x2)] : List Value).toArray 4 from by rw [hargs], lg_entry_eq]
  generalize (lg_sl ([.ref (a 2), .int (iN x1), .int (iN x2)]) ++ List.replicate (4 - (lg_sl ([.ref (a 2), .int (iN x1), .int (iN x2)])).length) Slot.unset).toArray = ls at hl ⊢
  have hl : lv_has ls 4 [(0, .ref (a 2)), (1, .int (iN x1)), (2, .int (iN x2))] := hl
  generalize hQQ : MQ below (qMv (dC, dI) (gw 37 a (cE cI cA a)) (gA 37 a) r) args s 0 0 (gA 37 a) = QQ
  refine lv_aload_n hx hb dX2_open_0 rfl (lv_at hl 0 rfl) ?_
  refine lv_iload_n hx hb dX2_open_1 rfl (lv_at hl 1 rfl) ?_
  obtain ⟨σ1, hσ1, hf⟩ := nxe hf
  refine x_put (C := RX2) (T := TX2) (NF := 4) (x := x1) (ty := .int) hx hb hts iX2 tyX2 tyX2_ok nmX2 hi hown hK hP hS 2 (by decide) (cE_2 cI cA a (_)) rfl 2 2 (by decide) fl20 rfl (by decide +kernel) rfl rfl (Nat.le_of_ble_eq_true rfl) rfl dX2_open_2 (fun H locs hP hS => ?_)
  rw [← hσ1] at hP
  have hRσ1 : Rg σ1 := by rw [hσ1]; exact Rg_up hR rx1
  refine lv_aload_n hx hb dX2_open_5 rfl (lv_at hl 0 rfl) ?_
  refine lv_iload_n hx hb dX2_open_6 rfl (lv_at hl 2 rfl) ?_
  obtain ⟨σ2, hσ2, hf⟩ := nxe hf
  refine x_put (C := RX2) (T := TX2) (NF := 4) (x := x2) (ty := .int) hx hb hts iX2 tyX2 tyX2_ok nmX2 hi hown hK hP hS 2 (by decide) (cE_2 cI cA a (_)) rfl 3 3 (by decide) fl24 rfl (by decide +kernel) rfl rfl (Nat.le_of_ble_eq_true rfl) rfl dX2_open_7 (fun H locs hP hS => ?_)
  rw [← hσ2] at hP
  have hRσ2 : Rg σ2 := by rw [hσ2]; exact Rg_up hRσ1 rx2
  refine lv_iconst (v := iN 0) hx hb dX2_open_10 rfl ?_
  refine lv_istore_n (lv' := [(3, .int (iN 0)), (0, .ref (a 2)), (1, .int (iN x1)), (2, .int (iN x2))]) hx hb dX2_open_11 rfl hl (by decide) rfl (fun ls hl => ?_)
  have L_fX2_open_2_L12 : ∀ (EX0 : Mem → Int → Option (Int × Mem)), (∀ (σ4 : Mem) (v3 : Int), Rg σ4 → rng v3 → EX0 σ4 v3 = some r → ∀ H locs ls, va_P (dC, dI) vwCl (gw 37 a (cE cI cA a) σ4) H → va_S (gA 37 a) s.heap H locs → lv_has ls 4 [(0, .ref (a 2)), (1, .int (iN x1)), (2, .int (iN x2)), (3, .int (iN v3))] → W p l e RR s m args below meth c H locs 0 0 QQ (F0 m 30 ls [])) → ∀ n0 : Nat, ∀ (σ4 : Mem) (v3 : Int), Rg σ4 → rng v3 → fX2_open_2_L12  EX0 n0 σ4 v3 = some r → ∀ H locs ls, va_P (dC, dI) vwCl (gw 37 a (cE cI cA a) σ4) H → va_S (gA 37 a) s.heap H locs → lv_has ls 4 [(0, .ref (a 2)), (1, .int (iN x1)), (2, .int (iN x2)), (3, .int (iN v3))] → W p l e RR s m args below meth c H locs 0 0 QQ (F0 m 12 ls []) := by
    intro EX0 hEX0 n0
    induction n0 with
    | zero => intro _ _ _ _ hf; cases hf
    | succ n0 ih0 =>
      intro σ4 v3 hRσ4 rv3 hf H locs ls hP hS hl
      rw [fX2_open_2_L12] at hf
      refine lv_iload_n hx hb dX2_open_12 rfl (lv_at hl 3 rfl) ?_
      refine lv_bipush (v := iN 6) hx hb dX2_open_13 (by decide) ?_
      refine x_icmp_ge (tgt := 30) hx hb rv3 (by decide) dX2_open_15 (by decide) (fun c8 => ?_) (fun c8 => ?_)
      · replace hf := (if_neg c8).symm.trans hf
        exact hEX0 _ _ hRσ4 rv3 hf _ _ _ hP hS (lv_sub hl [0, 1, 2, 3] rfl)
      · replace hf := (if_pos c8).symm.trans hf
        refine lv_aload_n hx hb dX2_open_18 rfl (lv_at hl 0 rfl) ?_
        refine lv_iload_n hx hb dX2_open_19 rfl (lv_at hl 3 rfl) ?_
        obtain ⟨v5, σ6, hv5, hf⟩ := bd2 hf
        refine x_callM (va_runV (As := [.int (iN v3)]) (rest := []) ⟨hx, hb, hml, hown, hts⟩ (kX2_empty_2 l dC dI cI cA a hi σ4 v3 (v5, σ6) hv5 hRσ4 rv3) (cwV 1 hts gX2_open_X2_empty rfl rfl rfl hX2_empty_d ⟨Nat.le_trans (by decide) hrm.1, Nat.le_trans (by decide) hrm.2⟩) (pvC 2 (by decide) (cE_2 cI cA a (_)) rfl hP hK hN) rfl rfl hl.1 rfl (lv_room (Nat.le_of_ble_eq_true rfl)) dX2_open_20 ⟨Nat.zero_le _, Nat.zero_le _⟩) hS (fun rv5 hRσ6 H locs hP hS => ?_)
        refine lv_pop hx hb dX2_open_23 rfl ?_
        obtain ⟨g7, hf⟩ := gd hf
        refine lv_iinc (v := iN (v3 + 1)) (lv' := [(3, .int (iN (v3 + 1))), (0, .ref (a 2)), (1, .int (iN x1)), (2, .int (iN x2))]) hx hb dX2_open_24 hl (k := 3) rfl (iN_add v3 1) (by decide) rfl (fun ls hl => ?_)
        refine lv_goto (tgt := 12) hx hb dX2_open_27 (by decide) ?_
        exact ih0 _ _ hRσ6 g7 hf _ _ _ hP hS (lv_sub hl [1, 2, 3, 0] rfl)
  refine L_fX2_open_2_L12 _ (fun σ10 v9 hRσ10 rv9 hf H locs ls hP hS hl => ?_) _ _ _ hRσ2 (by decide) hf _ _ _ hP hS (lv_sub hl [1, 2, 3, 0] rfl)
  rw [← hQQ]
  exact x_vretM hx hb hr (Option.some.inj hf) hRσ10 hP hS hlocks dX2_open_30
