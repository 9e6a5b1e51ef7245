def fX6_forget_0 (σ : Mem) (x1 : Int) (x2 : Int) : Option (Int × Mem) := (fX1_listsOf_1 σ x1).bind fun v1 => if v1 = 2 then (fX2_hasOwner_2 σ x2).bind fun v3 => if v3 = 0 then some ((-1), σ) else bnd2 (fX6_dropWork_0 σ ) fun v4 σ5 => bnd2 (fX2_empty_2 σ5 x2) fun v6 σ7 => some (v6, σ7) else if v1 = 11 then (fX2_hasOwner_11 σ x2).bind fun v10 => if v10 = 0 then some ((-1), σ) else bnd2 (fX6_dropWork_0 σ ) fun v11 σ12 => bnd2 (fX2_empty_11 σ12 x2) fun v13 σ14 => some (v13, σ14) else if v1 = (-1) then some ((-1), σ) else none
set_option maxHeartbeats 4000000 in
set_option maxRecDepth 100000 in
theorem kX6_forget_0 (l : Launch) (dC : Nat → ClassId) (dI : Nat → Nat → Nat) (cI : ClassId) (cA : ClassId) (a : Nat → Nat) (hi : ∀ i j, i < 37 → j < 37 → a i = a j → i = j) (σ : Mem) (x1 : Int) (x2 : Int) (r : (Int × Mem)) (hf : fX6_forget_0 σ x1 x2 = some r) (hR : Rg σ) (rx1 : rng x1) (rx2 : rng x2) : Met l yX6_forget wsX6_forget ({ frames := 2, cells := 0, slots := 0, locals := 45 }) (va_Pc [.ref (a 0), .int (iN x1), .int (iN x2)] (preC dC dI cI cA a σ)) (qM (dC, dI) (gw 37 a (cE cI cA a)) (gA 37 a) r) 0 0 (gA 37 a) := by
  refine Met.ofW (cc := cX6_forget) (maxL := 4) (ret := (some .int)) (by decide) rfl ?_
  intro p e s m args below meth c s₁ B hml hv
  obtain ⟨hargs, hP, hK, hN⟩ := hv
  have hx := B.exec
  have hb := B.bytes
  have hr := B.returns
  have hts := atoms_spec (ws := wsX6_forget) B.pre
  have hown : s.vm.findClass RX6 = some m.cls := findClass_of_methodNamed B.named
  have hlocks := B.notSynchronized
  have hS : va_S (gA 37 a) s.heap s.heap [] := va_S.rf
  have iX6 : ∀ w ∈ wsX60, w ∈ wsX6_forget := by decide +kernel
  have fl12 := hts (.fieldLink RX6 12 "MatchHall" "hall" "LMatchHall$Hall;") (by decide +kernel)
  have hrm : 2 ≤ (headSpec wsX6_forget ({ frames := 2, cells := 0, slots := 0, locals := 45 })).room.frames ∧ 45 ≤ (headSpec wsX6_forget ({ frames := 2, cells := 0, slots := 0, locals := 45 })).room.locals := ⟨Nat.le_refl _, Nat.le_refl _⟩
  generalize (headSpec wsX6_forget ({ frames := 2, cells := 0, slots := 0, locals := 45 })).room = RR at hrm ⊢
  have hl := lv_entry ([.ref (a 0), .int (iN x1), .int (iN x2)]) (n := 4) (Nat.le_of_ble_eq_true rfl)
  rw [show entryFrame m args 4 = entryFrame m ([.ref (a 0), .int (iN x1), .int (iN x2)] : List Value).toArray 4 from by rw [hargs], lg_entry_eq]
  generalize (lg_sl ([.ref (a 0), .int (iN x1), .int (iN x2)]) ++ List.replicate (4 - (lg_sl ([.ref (a 0), .int (iN x1), .int (iN x2)])).length) Slot.unset).toArray = ls at hl ⊢
  have hl : lv_has ls 4 [(0, .ref (a 0)), (1, .int (iN x1)), (2, .int (iN x2))] := hl
  generalize hQQ : MQ below (qM (dC, dI) (gw 37 a (cE cI cA a)) (gA 37 a) r) args s 0 0 (gA 37 a) = QQ
  refine lv_aload_n hx hb dX6_forget_0 rfl (lv_at hl 0 rfl) ?_
  refine x_get (C := RX6) (T := TX6) (NF := 6) (v := .ref (a 1)) hx hb hts iX6 hown hK hP 0 (by decide) (cE_0 cI cA a (_)) rfl 0 (by decide) fl12 rfl dX6_forget_1 ?_
  refine lv_iload_n hx hb dX6_forget_4 rfl (lv_at hl 1 rfl) ?_
  obtain ⟨v1, hv1, hf⟩ := bd hf
  by_cases c2 : v1 = 2
  · replace hf := (if_pos c2).symm.trans hf
    subst c2
    refine x_callR (va_runV (As := [.int (iN x1)]) (rest := []) ⟨hx, hb, hml, hown, hts⟩ (kX1_listsOf_1 l dC dI cI cA a σ x1 2 hv1 hR rx1) (cwV 1 hts gX6_forget_X1_listsOf rfl rfl rfl hX1_listsOf_d ⟨Nat.le_trans (by decide) hrm.1, Nat.le_trans (by decide) hrm.2⟩) (pvC 1 (by decide) (cE_1 cI cA a (_)) rfl hP hK hN) rfl rfl hl.1 rfl (lv_room (Nat.le_of_ble_eq_true rfl)) dX6_forget_5 ⟨Nat.zero_le _, Nat.zero_le _⟩) ?_
    refine W.eq (g2 := F0 m 8 ls [.ref (a 2)]) rfl ?_
    refine lv_astore_n (lv' := [(3, .ref (a 2)), (0, .ref (a 0)), (1, .int (iN x1)), (2, .int (iN x2))]) hx hb dX6_forget_8 rfl hl (by decide) rfl (fun ls hl => ?_)
    refine lv_aload_n hx hb dX6_forget_9 rfl (lv_at hl 0 rfl) ?_
    refine lv_ifnull hx hb dX6_forget_10 ?_
    refine lv_aload_n hx hb dX6_forget_13 rfl (lv_at hl 0 rfl) ?_
    refine lv_iload_n hx hb dX6_forget_14 rfl (lv_at hl 3 rfl) ?_
    obtain ⟨v3, hv3, hf⟩ := bd hf
    refine x_callP (va_runV (As := [.int (iN x2)]) (rest := []) ⟨hx, hb, hml, hown, hts⟩ (kX2_hasOwner_2 l dC dI cI cA a σ x2 v3 hv3 hR rx2) (cwV 1 hts gX6_forget_X2_hasOwner rfl rfl rfl hX2_hasOwner_d ⟨Nat.le_trans (by decide) hrm.1, Nat.le_trans (by decide) hrm.2⟩) (pvC 2 (by decide) (cE_2 cI cA a (_)) rfl hP hK hN) rfl rfl hl.1 rfl (lv_room (Nat.le_of_ble_eq_true rfl)) dX6_forget_15 ⟨Nat.zero_le _, Nat.zero_le _⟩) (fun rv3 => ?_)
    refine x_if_ne (tgt := 23) hx hb rv3 dX6_forget_18 (by decide) (fun c8 => ?_) (fun c8 => ?_)
    · replace hf := (if_neg c8).symm.trans hf
      refine lv_aload_n hx hb dX6_forget_23 rfl (lv_at hl 1 rfl) ?_
      obtain ⟨v4, σ5, hv4, hf⟩ := bd2 hf
      refine x_callMv (va_runV (As := []) (rest := []) ⟨hx, hb, hml, hown, hts⟩ (kX6_dropWork_0 l dC dI cI cA a hi σ  (v4, σ5) hv4 hR ) (cwV 0 hts gX6_forget_X6_dropWork rfl rfl rfl hX6_dropWork_d ⟨Nat.le_trans (by decide) hrm.1, Nat.le_trans (by decide) hrm.2⟩) (pvC 0 (by decide) (cE_0 cI cA a (_)) rfl hP hK hN) rfl rfl hl.1 rfl (lv_room (Nat.le_of_ble_eq_true rfl)) dX6_forget_24 ⟨Nat.zero_le _, Nat.zero_le _⟩) hS (fun rv4 hRσ5 H locs hP hS => ?_)
      refine lv_aload_n hx hb dX6_forget_27 rfl (lv_at hl 0 rfl) ?_
      refine lv_iload_n hx hb dX6_forget_28 rfl (lv_at hl 3 rfl) ?_
      obtain ⟨v6, σ7, hv6, hf⟩ := bd2 hf
      refine x_callM (va_runV (As := [.int (iN x2)]) (rest := []) ⟨hx, hb, hml, hown, hts⟩ (kX2_empty_2 l dC dI cI cA a hi σ5 x2 (v6, σ7) hv6 hRσ5 rx2) (cwV 1 hts gX6_forget_X2_empty rfl rfl rfl hX2_empty_d ⟨Nat.le_trans (by decide) hrm.1, Nat.le_trans (by decide) hrm.2⟩) (pvC 2 (by decide) (cE_2 cI cA a (_)) rfl hP hK hN) rfl rfl hl.1 rfl (lv_room (Nat.le_of_ble_eq_true rfl)) dX6_forget_29 ⟨Nat.zero_le _, Nat.zero_le _⟩) hS (fun rv6 hRσ7 H locs hP hS => ?_)
      rw [← hQQ]
      exact x_iretM hx hb hr (Option.some.inj hf) rv6 hRσ7 hP hS hlocks dX6_forget_32
    · replace hf := (if_pos c8).symm.trans hf
      refine lv_iconst (v := iN (-1)) hx hb dX6_forget_21 rfl ?_
      rw [← hQQ]
      exact x_iretM hx hb hr (Option.some.inj hf) (by decide) hR hP hS hlocks dX6_forget_22
  · replace hf := (if_neg c2).symm.trans hf
    by_cases c9 : v1 = 11
    · replace hf := (if_pos c9).symm.trans hf
      subst c9
      refine x_callR (va_runV (As := [.int (iN x1)]) (rest := []) ⟨hx, hb, hml, hown, hts⟩ (kX1_listsOf_1 l dC dI cI cA a σ x1 11 hv1 hR rx1) (cwV 1 hts gX6_forget_X1_listsOf rfl rfl rfl hX1_listsOf_d ⟨Nat.le_trans (by decide) hrm.1, Nat.le_trans (by decide) hrm.2⟩) (pvC 1 (by decide) (cE_1 cI cA a (_)) rfl hP hK hN) rfl rfl hl.1 rfl (lv_room (Nat.le_of_ble_eq_true rfl)) dX6_forget_5 ⟨Nat.zero_le _, Nat.zero_le _⟩) ?_
      refine W.eq (g2 := F0 m 8 ls [.ref (a 11)]) rfl ?_
      refine lv_astore_n (lv' := [(3, .ref (a 11)), (0, .ref (a 0)), (1, .int (iN x1)), (2, .int (iN x2))]) hx hb dX6_forget_8 rfl hl (by decide) rfl (fun ls hl => ?_)
      refine lv_aload_n hx hb dX6_forget_9 rfl (lv_at hl 0 rfl) ?_
      refine lv_ifnull hx hb dX6_forget_10 ?_
      refine lv_aload_n hx hb dX6_forget_13 rfl (lv_at hl 0 rfl) ?_
      refine lv_iload_n hx hb dX6_forget_14 rfl (lv_at hl 3 rfl) ?_
      obtain ⟨v10, hv10, hf⟩ := bd hf
      refine x_callP (va_runV (As := [.int (iN x2)]) (rest := []) ⟨hx, hb, hml, hown, hts⟩ (kX2_hasOwner_11 l dC dI cI cA a σ x2 v10 hv10 hR rx2) (cwV 1 hts gX6_forget_X2_hasOwner rfl rfl rfl hX2_hasOwner_d ⟨Nat.le_trans (by decide) hrm.1, Nat.le_trans (by decide) hrm.2⟩) (pvC 11 (by decide) (cE_11 cI cA a (_)) rfl hP hK hN) rfl rfl hl.1 rfl (lv_room (Nat.le_of_ble_eq_true rfl)) dX6_forget_15 ⟨Nat.zero_le _, Nat.zero_le _⟩) (fun rv10 => ?_)
      refine x_if_ne (tgt := 23) hx hb rv10 dX6_forget_18 (by decide) (fun c15 => ?_) (fun c15 => ?_)
      · replace hf := (if_neg c15).symm.trans hf
        refine lv_aload_n hx hb dX6_forget_23 rfl (lv_at hl 1 rfl) ?_
        obtain ⟨v11, σ12, hv11, hf⟩ := bd2 hf
        refine x_callMv (va_runV (As := []) (rest := []) ⟨hx, hb, hml, hown, hts⟩ (kX6_dropWork_0 l dC dI cI cA a hi σ  (v11, σ12) hv11 hR ) (cwV 0 hts gX6_forget_X6_dropWork rfl rfl rfl hX6_dropWork_d ⟨Nat.le_trans (by decide) hrm.1, Nat.le_trans (by decide) hrm.2⟩) (pvC 0 (by decide) (cE_0 cI cA a (_)) rfl hP hK hN) rfl rfl hl.1 rfl (lv_room (Nat.le_of_ble_eq_true rfl)) dX6_forget_24 ⟨Nat.zero_le _, Nat.zero_le _⟩) hS (fun rv11 hRσ12 H locs hP hS => ?_)
        refine lv_aload_n hx hb dX6_forget_27 rfl (lv_at hl 0 rfl) ?_
        refine lv_iload_n hx hb dX6_forget_28 rfl (lv_at hl 3 rfl) ?_
        obtain ⟨v13, σ14, hv13, hf⟩ := bd2 hf
        refine x_callM (va_runV (As := [.int (iN x2)]) (rest := []) ⟨hx, hb, hml, hown, hts⟩ (kX2_empty_11 l dC dI cI cA a hi σ12 x2 (v13, σ14) hv13 hRσ12 rx2) (cwV 1 hts gX6_forget_X2_empty rfl rfl rfl hX2_empty_d ⟨Nat.le_trans (by decide) hrm.1, Nat.le_trans (by decide) hrm.2⟩) (pvC 11 (by decide) (cE_11 cI cA a (_)) rfl hP hK hN) rfl rfl hl.1 rfl (lv_room (Nat.le_of_ble_eq_true rfl)) dX6_forget_29 ⟨Nat.zero_le _, Nat.zero_le _⟩) hS (fun rv13 hRσ14 H locs hP hS => ?_)
        rw [← hQQ]
        exact x_iretM hx hb hr (Option.some.inj hf) rv13 hRσ14 hP hS hlocks dX6_forget_32
      · replace hf := (if_pos c15).symm.trans hf
        refine lv_iconst (v := iN (-1)) hx hb dX6_forget_21 rfl ?_
        rw [← hQQ]
        exact x_iretM hx hb hr (Option.some.inj hf) (by decide) hR hP hS hlocks dX6_forget_22
    · replace hf := (if_neg c9).symm.trans hf
      by_cases c16 : v1 = (-1)
      · replace hf := (if_pos c16).symm.trans hf
        subst c16
        refine x_callR (va_runV (As := [.int (iN x1)]) (rest := []) ⟨hx, hb, hml, hown, hts⟩ (kX1_listsOf_1 l dC dI cI cA a σ x1 (-1) hv1 hR rx1) (cwV 1 hts gX6_forget_X1_listsOf rfl rfl rfl hX1_listsOf_d ⟨Nat.le_trans (by decide) hrm.1, Nat.le_trans (by decide) hrm.2⟩) (pvC 1 (by decide) (cE_1 cI cA a (_)) rfl hP hK hN) rfl rfl hl.1 rfl (lv_room (Nat.le_of_ble_eq_true rfl)) dX6_forget_5 ⟨Nat.zero_le _, Nat.zero_le _⟩) ?_
        refine W.eq (g2 := F0 m 8 ls [.null]) rfl ?_
        refine lv_astore_nN (lv' := [(3, .null), (0, .ref (a 0)), (1, .int (iN x1)), (2, .int (iN x2))]) hx hb dX6_forget_8 rfl hl (by decide) rfl (fun ls hl => ?_)
        refine lv_aload_nN hx hb dX6_forget_9 rfl (lv_at hl 0 rfl) ?_
        refine lv_ifnullN (tgt := 21) hx hb dX6_forget_10 (by decide) ?_
        refine lv_iconst (v := iN (-1)) hx hb dX6_forget_21 rfl ?_
        rw [← hQQ]
        exact x_iretM hx hb hr (Option.some.inj hf) (by decide) hR hP hS hlocks dX6_forget_22
      · replace hf := (if_neg c16).symm.trans hf
        cases hf
def fX1_isPair_1 (σ : Mem) (x1 : Int) (x2 : Int) : Option Int := if (0 : Int) ≤ x1 ∧ (x1 : Int) < 6 then if (0 : Int) ≤ x2 ∧ (x2 : Int) < 6 then if (σ (4 + x1.toNat) x2) = (-1) then some 0 else if (0 : Int) ≤ x2 ∧ (x2 : Int) < 6 then if (0 : Int) ≤ x1 ∧ (x1 : Int) < 6 then if (σ (13 + x2.toNat) x1) = (-1) then some 0 else some 1 else none else none else none else none
set_option maxHeartbeats 4000000 in
set_option maxRecDepth 100000 in
theorem kX1_isPair_1 (l : Launch) (dC : Nat → ClassId) (dI : Nat → Nat → Nat) (cI : ClassId) (cA : ClassId) (a : Nat → Nat) (σ : Mem) (x1 : Int) (x2 : Int) (r : Int) (hf : fX1_isPair_1 σ x1 x2 = some r) (hR : Rg σ) (rx1 : rng x1) (rx2 : rng x2) : Met l yX1_isPair wsX1_isPair ({ frames := 0, cells := 0, slots := 0, locals := 0 }) (va_Pc [.ref (a 1), .int (iN x1), .int (iN x2)] (preC dC dI cI cA a σ)) (qP r) 0 0 (fun _ => False) := by
  refine Met.ofW (cc := cX1_isPair) (maxL := 3) (ret := (some .boolean)) (by decide) rfl ?_
  intro p e s m args below meth c s₁ B hml hv
  obtain ⟨hargs, hP, hK, hN⟩ := hv
  have hx := B.exec
  have hb := B.bytes
  have hr := B.returns
  have hts := atoms_spec (ws := wsX1_isPair) B.pre
  have hown : s.vm.findClass RX1 = some m.cls := findClass_of_methodNamed B.named
  have hlocks := B.notSynchronized
  have iX1 : ∀ w ∈ wsX10, w ∈ wsX1_isPair := by decide +kernel
  have iX2 : ∀ w ∈ wsX20, w ∈ wsX1_isPair := by decide +kernel
  have fl12 := hts (.fieldLink RX1 12 "MatchHall$Hall" "ofResidents" "LMatchHall$Lists;") (by decide +kernel)
  have fl18 := hts (.fieldLink RX1 18 "MatchHall$Hall" "ofHospitals" "LMatchHall$Lists;") (by decide +kernel)
  have fn43 := va_Nw.use (A := args) rfl (hN (.fieldLinkNest RX1 43 "MatchHall$Lists" "places" "[[I" "MatchHall") (by decide +kernel))
  have hrm : 0 ≤ (headSpec wsX1_isPair ({ frames := 0, cells := 0, slots := 0, locals := 0 })).room.frames ∧ 0 ≤ (headSpec wsX1_isPair ({ frames := 0, cells := 0, slots := 0, locals := 0 })).room.locals := ⟨Nat.le_refl _, Nat.le_refl _⟩
  generalize (headSpec wsX1_isPair ({ frames := 0, cells := 0, slots := 0, locals := 0 })).room = RR at hrm ⊢
  have hl := lv_entry ([.ref (a 1), .int (iN x1), .int (iN x2)]) (n := 3) (Nat.le_of_ble_eq_true rfl)
  rw [show entryFrame m args 3 = entryFrame m ([.ref (a 1), .int (iN x1), .int (iN x2)] : List Value).toArray 3 from by rw [hargs], lg_entry_eq]
  generalize (lg_sl ([.ref (a 1), .int (iN x1), .int (iN x2)]) ++ List.replicate (3 - (lg_sl ([.ref (a 1), .int (iN x1), .int (iN x2)])).length) Slot.unset).toArray = ls at hl ⊢
  have hl : lv_has ls 3 [(0, .ref (a 1)), (1, .int (iN x1)), (2, .int (iN x2))] := hl
  generalize hQQ : MQ below (qP r) args s 0 0 (fun _ => False) = QQ
  refine lv_aload_n hx hb dX1_isPair_0 rfl (lv_at hl 0 rfl) ?_
  refine x_get (C := RX1) (T := TX1) (NF := 5) (v := .ref (a 2)) hx hb hts iX1 hown hK hP 1 (by decide) (cE_1 cI cA a (_)) rfl 0 (by decide) fl12 rfl dX1_isPair_1 ?_
  refine x_getN (C := RX2) (T := TX2) (NF := 4) (v := .ref (a 3)) hx hb hts iX2 hown hK hP 2 (by decide) (cE_2 cI cA a (_)) rfl 0 (by decide) fn43 rfl dX1_isPair_4 ?_
  refine lv_iload_n hx hb dX1_isPair_7 rfl (lv_at hl 1 rfl) ?_
  obtain ⟨g1, hf⟩ := gd hf
  refine x_aald hx hb hK hP 3 1 (by decide) (cE_3 cI cA a (_)) (by decide) rfl g1 (row_f4 a g1) dX1_isPair_8 ?_
  refine lv_iload_n hx hb dX1_isPair_9 rfl (lv_at hl 2 rfl) ?_
  obtain ⟨g2, hf⟩ := gd hf
  refine x_iald hx hb hK hP (4 + x1.toNat) 0 (row_lt4 g1) (cE_row4 cI cA a g1 _) (by decide) rfl g2 dX1_isPair_10 ?_
  refine lv_iconst (v := iN (-1)) hx hb dX1_isPair_11 rfl ?_
  refine x_icmp_eq (tgt := 34) hx hb (hR (4 + x1.toNat) x2) (by decide) dX1_isPair_12 (by decide) (fun c6 => ?_) (fun c6 => ?_)
  · replace hf := (if_pos c6).symm.trans hf
    refine lv_iconst (v := iN 0) hx hb dX1_isPair_34 rfl ?_
    rw [← hQQ]
    exact x_zret hx hb hr (by decide) (Option.some.inj hf) (by decide) hlocks dX1_isPair_35
  · replace hf := (if_neg c6).symm.trans hf
    refine lv_aload_n hx hb dX1_isPair_15 rfl (lv_at hl 0 rfl) ?_
    refine x_get (C := RX1) (T := TX1) (NF := 5) (v := .ref (a 11)) hx hb hts iX1 hown hK hP 1 (by decide) (cE_1 cI cA a (_)) rfl 1 (by decide) fl18 rfl dX1_isPair_16 ?_
    refine x_getN (C := RX2) (T := TX2) (NF := 4) (v := .ref (a 12)) hx hb hts iX2 hown hK hP 11 (by decide) (cE_11 cI cA a (_)) rfl 0 (by decide) fn43 rfl dX1_isPair_19 ?_
    refine lv_iload_n hx hb dX1_isPair_22 rfl (lv_at hl 2 rfl) ?_
    obtain ⟨g3, hf⟩ := gd hf
    refine x_aald hx hb hK hP 12 1 (by decide) (cE_12 cI cA a (_)) (by decide) rfl g3 (row_f13 a g3) dX1_isPair_23 ?_
    refine lv_iload_n hx hb dX1_isPair_24 rfl (lv_at hl 1 rfl) ?_
    obtain ⟨g4, hf⟩ := gd hf
    refine x_iald hx hb hK hP (13 + x2.toNat) 0 (row_lt13 g3) (cE_row13 cI cA a g3 _) (by decide) rfl g4 dX1_isPair_25 ?_
    refine lv_iconst (v := iN (-1)) hx hb dX1_isPair_26 rfl ?_
    refine x_icmp_eq (tgt := 34) hx hb (hR (13 + x2.toNat) x1) (by decide) dX1_isPair_27 (by decide) (fun c5 => ?_) (fun c5 => ?_)
    · replace hf := (if_pos c5).symm.trans hf
      refine lv_iconst (v := iN 0) hx hb dX1_isPair_34 rfl ?_
      rw [← hQQ]
      exact x_zret hx hb hr (by decide) (Option.some.inj hf) (by decide) hlocks dX1_isPair_35
    · replace hf := (if_neg c5).symm.trans hf
      refine lv_iconst (v := iN 1) hx hb dX1_isPair_30 rfl ?_
      refine lv_goto (tgt := 35) hx hb dX1_isPair_31 (by decide) ?_
      rw [← hQQ]
      exact x_zret hx hb hr (by decide) (Option.some.inj hf) (by decide) hlocks dX1_isPair_35
def fX1_countPairs_1_L14 (σ : Mem) (v2 : Int) (ex1 : Int → Int → Option Int) : Nat → Int → Int → Option Int
  | 0, _, _ => none
  | n1 + 1, v3, v4 => if v4 < (σ 1 4) then (fX1_isPair_1 σ v2 v4).bind fun v5 => if v5 = 0 then if rng (v4 + 1) then fX1_countPairs_1_L14 σ v2 ex1 n1 v3 (v4 + 1) else none else if rng (v3 + 1) then if rng (v4 + 1) then fX1_countPairs_1_L14 σ v2 ex1 n1 (v3 + 1) (v4 + 1) else none else none else ex1 v3 v4
def fX1_countPairs_1_L4 (σ : Mem) (ex0 : Int → Int → Option Int) : Nat → Int → Int → Option Int
  | 0, _, _ => none
  | n0 + 1, v1, v2 => if v2 < (σ 1 3) then fX1_countPairs_1_L14 σ v2 (fun v11 v12 => if rng (v2 + 1) then fX1_countPairs_1_L4 σ ex0 n0 v11 (v2 + 1) else none) FU v1 0 else ex0 v1 v2
def fX1_countPairs_1 (σ : Mem) : Option Int := fX1_countPairs_1_L4 σ (fun v15 v16 => some v15) FU 0 0
set_option maxHeartbeats 4000000 in
set_option maxRecDepth 100000 in
theorem kX1_countPairs_1 (l : Launch) (dC : Nat → ClassId) (dI : Nat → Nat → Nat) (cI : ClassId) (cA : ClassId) (a : Nat → Nat) (σ : Mem) (r : Int) (hf : fX1_countPairs_1 σ  = some r) (hR : Rg σ) : Met l yX1_countPairs wsX1_countPairs ({ frames := 1, cells := 0, slots := 0, locals := 22 }) (va_Pc [.ref (a 1)] (preC dC dI cI cA a σ)) (qP r) 0 0 (fun _ => False) := by
  refine Met.ofW (cc := cX1_countPairs) (maxL := 4) (ret := (some .int)) (by decide) rfl ?_
  intro p e s m args below meth c s₁ B hml hv
  obtain ⟨hargs, hP, hK, hN⟩ := hv
  have hx := B.exec
  have hb := B.bytes
  have hr := B.returns
  have hts := atoms_spec (ws := wsX1_countPairs) B.pre
  have hown : s.vm.findClass RX1 = some m.cls := findClass_of_methodNamed B.named
  have hlocks := B.notSynchronized
  have iX1 : ∀ w ∈ wsX10, w ∈ wsX1_countPairs := by decide +kernel
  have fl29 := hts (.fieldLink RX1 29 "MatchHall$Hall" "residents" "I") (by decide +kernel)
  have fl33 := hts (.fieldLink RX1 33 "MatchHall$Hall" "hospitals" "I") (by decide +kernel)
  have hrm : 1 ≤ (headSpec wsX1_countPairs ({ frames := 1, cells := 0, slots := 0, locals := 22 })).room.frames ∧ 22 ≤ (headSpec wsX1_countPairs ({ frames := 1, cells := 0, slots := 0, locals := 22 })).room.locals := ⟨Nat.le_refl _, Nat.le_refl _⟩
  generalize (headSpec wsX1_countPairs ({ frames := 1, cells := 0, slots := 0, locals := 22 })).room = RR at hrm ⊢
  have hl := lv_entry ([.ref (a 1)]) (n := 4) (Nat.le_of_ble_eq_true rfl)
  rw [show entryFrame m args 4 = entryFrame m ([.ref (a 1)] : List Value).toArray 4 from by rw [hargs], lg_entry_eq]
  generalize (lg_sl ([.ref (a 1)]) ++ List.replicate (4 - (lg_sl ([.ref (a 1)])).length) Slot.unset).toArray = ls at hl ⊢
  have hl : lv_has ls 4 [(0, .ref (a 1))] := hl
  generalize hQQ : MQ below (qP r) args s 0 0 (fun _ => False) = QQ
  refine lv_iconst (v := iN 0) hx hb dX1_countPairs_0 rfl ?_
  refine lv_istore_n (lv' := [(1, .int (iN 0)), (0, .ref (a 1))]) hx hb dX1_countPairs_1 rfl hl (by decide) rfl (fun ls hl => ?_)
  refine lv_iconst (v := iN 0) hx hb dX1_countPairs_2 rfl ?_
  refine lv_istore_n (lv' := [(2, .int (iN 0)), (1, .int (iN 0)), (0, .ref (a 1))]) hx hb dX1_countPairs_3 rfl hl (by decide) rfl (fun ls hl => ?_)
  have L_fX1_countPairs_1_L4 : ∀ (EX0 : Int → Int → Option Int), (∀ (v1 : Int) (v2 : Int), rng v1 → rng v2 → EX0 v1 v2 = some r → ∀ ls, lv_has ls 4 [(0, .ref (a 1)), (1, .int (iN v1)), (2, .int (iN v2))] → W p l e RR s m args below meth c s.heap [] 0 0 QQ (F0 m 46 ls [])) → ∀ n0 : Nat, ∀ (v1 : Int) (v2 : Int), rng v1 → rng v2 → fX1_countPairs_1_L4 σ EX0 n0 v1 v2 = some r → ∀ ls, lv_has ls 4 [(0, .ref (a 1)), (1, .int (iN v1)), (2, .int (iN v2))] → W p l e RR s m args below meth c s.heap [] 0 0 QQ (F0 m 4 ls []) := by
    intro EX0 hEX0 n0
    induction n0 with
    | zero => intro _ _ _ _ hf; cases hf
    | succ n0 ih0 =>
      intro v1 v2 rv1 rv2 hf ls hl
      rw [fX1_countPairs_1_L4] at hf
      refine lv_iload_n hx hb dX1_countPairs_4 rfl (lv_at hl 2 rfl) ?_
      refine lv_aload_n hx hb dX1_countPairs_5 rfl (lv_at hl 0 rfl) ?_
      refine x_get (C := RX1) (T := TX1) (NF := 5) (v := .int (iN (σ 1 3))) hx hb hts iX1 hown hK hP 1 (by decide) (cE_1 cI cA a (_)) rfl 3 (by decide) fl29 rfl dX1_countPairs_6 ?_
      refine x_icmp_ge (tgt := 46) hx hb rv2 (hR 1 3) dX1_countPairs_9 (by decide) (fun c14 => ?_) (fun c14 => ?_)
      · replace hf := (if_neg c14).symm.trans hf
        exact hEX0 _ _ rv1 rv2 hf _ (lv_sub hl [0, 1, 2] rfl)
      · replace hf := (if_pos c14).symm.trans hf
        refine lv_iconst (v := iN 0) hx hb dX1_countPairs_12 rfl ?_
        refine lv_istore_n (lv' := [(3, .int (iN 0)), (0, .ref (a 1)), (1, .int (iN v1)), (2, .int (iN v2))]) hx hb dX1_countPairs_13 rfl hl (by decide) rfl (fun ls hl => ?_)
        have L_fX1_countPairs_1_L14 : ∀ (EX1 : Int → Int → Option Int), (∀ (v3 : Int) (v4 : Int), rng v3 → rng v4 → EX1 v3 v4 = some r → ∀ ls, lv_has ls 4 [(0, .ref (a 1)), (1, .int (iN v3)), (2, .int (iN v2)), (3, .int (iN v4))] → W p l e RR s m args below meth c s.heap [] 0 0 QQ (F0 m 40 ls [])) → ∀ n1 : Nat, ∀ (v3 : Int) (v4 : Int), rng v3 → rng v4 → fX1_countPairs_1_L14 σ v2 EX1 n1 v3 v4 = some r → ∀ ls, lv_has ls 4 [(0, .ref (a 1)), (1, .int (iN v3)), (2, .int (iN v2)), (3, .int (iN v4))] → W p l e RR s m args below meth c s.heap [] 0 0 QQ (F0 m 14 ls []) := by
          intro EX1 hEX1 n1
          induction n1 with
          | zero => intro _ _ _ _ hf; cases hf
          | succ n1 ih1 =>
            intro v3 v4 rv3 rv4 hf ls hl
            rw [fX1_countPairs_1_L14] at hf
            refine lv_iload_n hx hb dX1_countPairs_14 rfl (lv_at hl 3 rfl) ?_
            refine lv_aload_n hx hb dX1_countPairs_15 rfl (lv_at hl 0 rfl) ?_
            refine x_get (C := RX1) (T := TX1) (NF := 5) (v := .int (iN (σ 1 4))) hx hb hts iX1 hown hK hP 1 (by decide) (cE_1 cI cA a (_)) rfl 4 (by decide) fl33 rfl dX1_countPairs_16 ?_
            refine x_icmp_ge (tgt := 40) hx hb rv4 (hR 1 4) dX1_countPairs_19 (by decide) (fun c10 => ?_) (fun c10 => ?_)
            · replace hf := (if_neg c10).symm.trans hf
              exact hEX1 _ _ rv3 rv4 hf _ (lv_sub hl [0, 1, 2, 3] rfl)
            · replace hf := (if_pos c10).symm.trans hf
              refine lv_aload_n hx hb dX1_countPairs_22 rfl (lv_at hl 0 rfl) ?_
              refine lv_iload_n hx hb dX1_countPairs_23 rfl (lv_at hl 2 rfl) ?_
              refine lv_iload_n hx hb dX1_countPairs_24 rfl (lv_at hl 3 rfl) ?_
              obtain ⟨v5, hv5, hf⟩ := bd hf
              refine x_callP (va_runV (As := [.int (iN v2), .int (iN v4)]) (rest := []) ⟨hx, hb, hml, hown, hts⟩ (kX1_isPair_1 l dC dI cI cA a σ v2 v4 v5 hv5 hR rv2 rv4) (cwV 2 hts gX1_countPairs_X1_isPair rfl rfl rfl hX1_isPair_d ⟨Nat.le_trans (by decide) hrm.1, Nat.le_trans (by decide) hrm.2⟩) (pvC 1 (by decide) (cE_1 cI cA a (_)) rfl hP hK hN) rfl rfl hl.1 rfl (lv_room (Nat.le_of_ble_eq_true rfl)) dX1_countPairs_25 ⟨Nat.zero_le _, Nat.zero_le _⟩) (fun rv5 => ?_)
              refine x_if_eq (tgt := 34) hx hb rv5 dX1_countPairs_28 (by decide) (fun c9 => ?_) (fun c9 => ?_)
              · replace hf := (if_pos c9).symm.trans hf
                obtain ⟨g6, hf⟩ := gd hf
                refine lv_iinc (v := iN (v4 + 1)) (lv' := [(3, .int (iN (v4 + 1))), (0, .ref (a 1)), (1, .int (iN v3)), (2, .int (iN v2))]) hx hb dX1_countPairs_34 hl (k := 3) rfl (iN_add v4 1) (by decide) rfl (fun ls hl => ?_)
                refine lv_goto (tgt := 14) hx hb dX1_countPairs_37 (by decide) ?_
                exact ih1 _ _ rv3 g6 hf _ (lv_sub hl [1, 2, 3, 0] rfl)
              · replace hf := (if_neg c9).symm.trans hf
                obtain ⟨g7, hf⟩ := gd hf
                refine lv_iinc (v := iN (v3 + 1)) (lv' := [(1, .int (iN (v3 + 1))), (0, .ref (a 1)), (2, .int (iN v2)), (3, .int (iN v4))]) hx hb dX1_countPairs_31 hl (k := 1) rfl (iN_add v3 1) (by decide) rfl (fun ls hl => ?_)
                obtain ⟨g8, hf⟩ := gd hf
                refine lv_iinc (v := iN (v4 + 1)) (lv' := [(3, .int (iN (v4 + 1))), (1, .int (iN (v3 + 1))), (0, .ref (a 1)), (2, .int (iN v2))]) hx hb dX1_countPairs_34 hl (k := 3) rfl (iN_add v4 1) (by decide) rfl (fun ls hl => ?_)
                refine lv_goto (tgt := 14) hx hb dX1_countPairs_37 (by decide) ?_
                exact ih1 _ _ g7 g8 hf _ (lv_sub hl [2, 1, 3, 0] rfl)
        refine L_fX1_countPairs_1_L14 _ (fun v11 v12 rv11 rv12 hf ls hl => ?_) _ _ _ rv1 (by decide) hf _ (lv_sub hl [1, 2, 3, 0] rfl)
        obtain ⟨g13, hf⟩ := gd hf
        refine lv_iinc (v := iN (v2 + 1)) (lv' := [(2, .int (iN (v2 + 1))), (0, .ref (a 1)), (1, .int (iN v11)), (3, .int (iN v12))]) hx hb dX1_countPairs_40 hl (k := 2) rfl (iN_add v2 1) (by decide) rfl (fun ls hl => ?_)
        refine lv_goto (tgt := 4) hx hb dX1_countPairs_43 (by decide) ?_
        exact ih0 _ _ rv11 g13 hf _ (lv_sub hl [1, 2, 0] rfl)
  refine L_fX1_countPairs_1_L4 _ (fun v15 v16 rv15 rv16 hf ls hl => ?_) _ _ _ (by decide) (by decide) hf _ (lv_sub hl [2, 1, 0] rfl)
  refine lv_iload_n hx hb dX1_countPairs_46 rfl (lv_at hl 1 rfl) ?_
  rw [← hQQ]
  exact x_iret hx hb hr (Option.some.inj hf) rv15 hlocks dX1_countPairs_47
def fX5_hospitalAt_25 (σ : Mem) (x1 : Int) (x2 : Int) : Option Int := if rng (x1 * 6) then if rng ((x1 * 6) + x2) then if (0 : Int) ≤ ((x1 * 6) + x2) ∧ (((x1 * 6) + x2) : Int) < 1296 then some (σ 26 ((x1 * 6) + x2)) else none else none else none
set_option maxHeartbeats 4000000 in
set_option maxRecDepth 100000 in
theorem kX5_hospitalAt_25 (l : Launch) (dC : Nat → ClassId) (dI : Nat → Nat → Nat) (cI : ClassId) (cA : ClassId) (a : Nat → Nat) (σ : Mem) (x1 : Int) (x2 : Int) (r : Int) (hf : fX5_hospitalAt_25 σ x1 x2 = some r) (hR : Rg σ) (rx1 : rng x1) (rx2 : rng x2) : Met l yX5_hospitalAt wsX5_hospitalAt ({ frames := 0, cells := 0, slots := 0, locals := 0 }) (va_Pc [.ref (a 25), .int (iN x1), .int (iN x2)] (preC dC dI cI cA a σ)) (qP r) 0 0 (fun _ => False) := by
  refine Met.ofW (cc := cX5_hospitalAt) (maxL := 3) (ret := (some .int)) (by decide) rfl ?_
  intro p e s m args below meth c s₁ B hml hv
  obtain ⟨hargs, hP, hK, hN⟩ := hv
  have hx := B.exec
  have hb := B.bytes
  have hr := B.returns
  have hts := atoms_spec (ws := wsX5_hospitalAt) B.pre
  have hown : s.vm.findClass RX5 = some m.cls := findClass_of_methodNamed B.named
  have hlocks := B.notSynchronized
  have iX5 : ∀ w ∈ wsX50, w ∈ wsX5_hospitalAt := by decide +kernel
  have fl9 := hts (.fieldLink RX5 9 "MatchHall$Stables" "hospitals" "[I") (by decide +kernel)
  have hrm : 0 ≤ (headSpec wsX5_hospitalAt ({ frames := 0, cells := 0, slots := 0, locals := 0 })).room.frames ∧ 0 ≤ (headSpec wsX5_hospitalAt ({ frames := 0, cells := 0, slots := 0, locals := 0 })).room.locals := ⟨Nat.le_refl _, Nat.le_refl _⟩
  generalize (headSpec wsX5_hospitalAt ({ frames := 0, cells := 0, slots := 0, locals := 0 })).room = RR at hrm ⊢
  have hl := lv_entry ([.ref (a 25), .int (iN x1), .int (iN x2)]) (n := 3) (Nat.le_of_ble_eq_true rfl)
  rw [show entryFrame m args 3 = entryFrame m ([.ref (a 25), .int (iN x1), .int (iN x2)] : List Value).toArray 3 from by rw [hargs], lg_entry_eq]
  generalize (lg_sl ([.ref (a 25), .int (iN x1), .int (iN x2)]) ++ List.replicate (3 - (lg_sl ([.ref (a 25), .int (iN x1), .int (iN x2)])).length) Slot.unset).toArray = ls at hl ⊢
  have hl : lv_has ls 3 [(0, .ref (a 25)), (1, .int (iN x1)), (2, .int (iN x2))] := hl
  generalize hQQ : MQ below (qP r) args s 0 0 (fun _ => False) = QQ
  refine lv_aload_n hx hb dX5_hospitalAt_0 rfl (lv_at hl 0 rfl) ?_
  refine x_get (C := RX5) (T := TX5) (NF := 4) (v := .ref (a 26)) hx hb hts iX5 hown hK hP 25 (by decide) (cE_25 cI cA a (_)) rfl 1 (by decide) fl9 rfl dX5_hospitalAt_1 ?_
  refine lv_iload_n hx hb dX5_hospitalAt_4 rfl (lv_at hl 1 rfl) ?_
  refine lv_bipush (v := iN 6) hx hb dX5_hospitalAt_5 (by decide) ?_
  obtain ⟨g1, hf⟩ := gd hf
  refine x_imul hx hb dX5_hospitalAt_7 ?_
  refine lv_iload_n hx hb dX5_hospitalAt_8 rfl (lv_at hl 2 rfl) ?_
  obtain ⟨g2, hf⟩ := gd hf
  refine x_iadd hx hb dX5_hospitalAt_9 ?_
  obtain ⟨g3, hf⟩ := gd hf
  refine x_iald hx hb hK hP 26 0 (by decide) (cE_26 cI cA a (_)) (by decide) rfl g3 dX5_hospitalAt_10 ?_
  rw [← hQQ]
  exact x_iret hx hb hr (Option.some.inj hf) (hR 26 ((x1 * 6) + x2)) hlocks dX5_hospitalAt_11
def fX5_countSeated_25_L4 (σ : Mem) (ex0 : Int → Int → Option Int) : Nat → Int → Int → Option Int
  | 0, _, _ => none
  | n0 + 1, v1, v2 => if v2 < (σ 1 3) then (fX5_hospitalAt_25 σ 0 v2).bind fun v3 => if v3 = (-1) then if rng (v2 + 1) then fX5_countSeated_25_L4 σ ex0 n0 v1 (v2 + 1) else none else if rng (v1 + 1) then if rng (v2 + 1) then fX5_countSeated_25_L4 σ ex0 n0 (v1 + 1) (v2 + 1) else none else none else ex0 v1 v2
def fX5_countSeated_25 (σ : Mem) : Option Int := fX5_countSeated_25_L4 σ (fun v9 v10 => some v9) FU 0 0
set_option maxHeartbeats 4000000 in
set_option maxRecDepth 100000 in
theorem kX5_countSeated_25 (l : Launch) (dC : Nat → ClassId) (dI : Nat → Nat → Nat) (cI : ClassId) (cA : ClassId) (a : Nat → Nat) (σ : Mem) (r : Int) (hf : fX5_countSeated_25 σ  = some r) (hR : Rg σ) : Met l yX5_countSeated wsX5_countSeated ({ frames := 1, cells := 0, slots := 0, locals := 22 }) (va_Pc [.ref (a 25)] (preC dC dI cI cA a σ)) (qP r) 0 0 (fun _ => False) := by
  refine Met.ofW (cc := cX5_countSeated) (maxL := 3) (ret := (some .int)) (by decide) rfl ?_
  intro p e s m args below meth c s₁ B hml hv
  obtain ⟨hargs, hP, hK, hN⟩ := hv
  have hx := B.exec
  have hb := B.bytes
  have hr := B.returns
  have hts := atoms_spec (ws := wsX5_countSeated) B.pre
  have hown : s.vm.findClass RX5 = some m.cls := findClass_of_methodNamed B.named
  have hlocks := B.notSynchronized
  have iX1 : ∀ w ∈ wsX10, w ∈ wsX5_countSeated := by decide +kernel
  have iX5 : ∀ w ∈ wsX50, w ∈ wsX5_countSeated := by decide +kernel
  have fl18 := hts (.fieldLink RX5 18 "MatchHall$Stables" "hall" "LMatchHall$Hall;") (by decide +kernel)
  have fn37 := va_Nw.use (A := args) rfl (hN (.fieldLinkNest RX5 37 "MatchHall$Hall" "residents" "I" "MatchHall") (by decide +kernel))
  have hrm : 1 ≤ (headSpec wsX5_countSeated ({ frames := 1, cells := 0, slots := 0, locals := 22 })).room.frames ∧ 22 ≤ (headSpec wsX5_countSeated ({ frames := 1, cells := 0, slots := 0, locals := 22 })).room.locals := ⟨Nat.le_refl _, Nat.le_refl _⟩
  generalize (headSpec wsX5_countSeated ({ frames := 1, cells := 0, slots := 0, locals := 22 })).room = RR at hrm ⊢
  have hl := lv_entry ([.ref (a 25)]) (n := 3) (Nat.le_of_ble_eq_true rfl)
  rw [show entryFrame m args 3 = entryFrame m ([.ref (a 25)] : List Value).toArray 3 from by rw [hargs], lg_entry_eq]
  generalize (lg_sl ([.ref (a 25)]) ++ List.replicate (3 - (lg_sl ([.ref (a 25)])).length) Slot.unset).toArray = ls at hl ⊢
  have hl : lv_has ls 3 [(0, .ref (a 25))] := hl
  generalize hQQ : MQ below (qP r) args s 0 0 (fun _ => False) = QQ
  refine lv_iconst (v := iN 0) hx hb dX5_countSeated_0 rfl ?_
  refine lv_istore_n (lv' := [(1, .int (iN 0)), (0, .ref (a 25))]) hx hb dX5_countSeated_1 rfl hl (by decide) rfl (fun ls hl => ?_)
  refine lv_iconst (v := iN 0) hx hb dX5_countSeated_2 rfl ?_
  refine lv_istore_n (lv' := [(2, .int (iN 0)), (1, .int (iN 0)), (0, .ref (a 25))]) hx hb dX5_countSeated_3 rfl hl (by decide) rfl (fun ls hl => ?_)
  have L_fX5_countSeated_25_L4 : ∀ (EX0 : Int → Int → Option Int), (∀ (v1 : Int) (v2 : Int), rng v1 → rng v2 → EX0 v1 v2 = some r → ∀ ls, lv_has ls 3 [(0, .ref (a 25)), (1, .int (iN v1)), (2, .int (iN v2))] → W p l e RR s m args below meth c s.heap [] 0 0 QQ (F0 m 34 ls [])) → ∀ n0 : Nat, ∀ (v1 : Int) (v2 : Int), rng v1 → rng v2 → fX5_countSeated_25_L4 σ EX0 n0 v1 v2 = some r → ∀ ls, lv_has ls 3 [(0, .ref (a 25)), (1, .int (iN v1)), (2, .int (iN v2))] → W p l e RR s m args below meth c s.heap [] 0 0 QQ (F0 m 4 ls []) := by
    intro EX0 hEX0 n0
    induction n0 with
    | zero => intro _ _ _ _ hf; cases hf
    | succ n0 ih0 =>
      intro v1 v2 rv1 rv2 hf ls hl
      rw [fX5_countSeated_25_L4] at hf
      refine lv_iload_n hx hb dX5_countSeated_4 rfl (lv_at hl 2 rfl) ?_
      refine lv_aload_n hx hb dX5_countSeated_5 rfl (lv_at hl 0 rfl) ?_
      refine x_get (C := RX5) (T := TX5) (NF := 4) (v := .ref (a 1)) hx hb hts iX5 hown hK hP 25 (by decide) (cE_25 cI cA a (_)) rfl 0 (by decide) fl18 rfl dX5_countSeated_6 ?_
      refine x_getN (C := RX1) (T := TX1) (NF := 5) (v := .int (iN (σ 1 3))) hx hb hts iX1 hown hK hP 1 (by decide) (cE_1 cI cA a (_)) rfl 3 (by decide) fn37 rfl dX5_countSeated_9 ?_
      refine x_icmp_ge (tgt := 34) hx hb rv2 (hR 1 3) dX5_countSeated_12 (by decide) (fun c8 => ?_) (fun c8 => ?_)
      · replace hf := (if_neg c8).symm.trans hf
        exact hEX0 _ _ rv1 rv2 hf _ (lv_sub hl [0, 1, 2] rfl)
      · replace hf := (if_pos c8).symm.trans hf
        refine lv_aload_n hx hb dX5_countSeated_15 rfl (lv_at hl 0 rfl) ?_
        refine lv_iconst (v := iN 0) hx hb dX5_countSeated_16 rfl ?_
        refine lv_iload_n hx hb dX5_countSeated_17 rfl (lv_at hl 2 rfl) ?_
        obtain ⟨v3, hv3, hf⟩ := bd hf
        refine x_callP (va_runV (As := [.int (iN 0), .int (iN v2)]) (rest := []) ⟨hx, hb, hml, hown, hts⟩ (kX5_hospitalAt_25 l dC dI cI cA a σ 0 v2 v3 hv3 hR (by decide) rv2) (cwV 2 hts gX5_countSeated_X5_hospitalAt rfl rfl rfl hX5_hospitalAt_d ⟨Nat.le_trans (by decide) hrm.1, Nat.le_trans (by decide) hrm.2⟩) (pvC 25 (by decide) (cE_25 cI cA a (_)) rfl hP hK hN) rfl rfl hl.1 rfl (lv_room (Nat.le_of_ble_eq_true rfl)) dX5_countSeated_18 ⟨Nat.zero_le _, Nat.zero_le _⟩) (fun rv3 => ?_)
        refine lv_iconst (v := iN (-1)) hx hb dX5_countSeated_21 rfl ?_
        refine x_icmp_eq (tgt := 28) hx hb rv3 (by decide) dX5_countSeated_22 (by decide) (fun c7 => ?_) (fun c7 => ?_)
        · replace hf := (if_pos c7).symm.trans hf
          obtain ⟨g4, hf⟩ := gd hf
          refine lv_iinc (v := iN (v2 + 1)) (lv' := [(2, .int (iN (v2 + 1))), (0, .ref (a 25)), (1, .int (iN v1))]) hx hb dX5_countSeated_28 hl (k := 2) rfl (iN_add v2 1) (by decide) rfl (fun ls hl => ?_)
          refine lv_goto (tgt := 4) hx hb dX5_countSeated_31 (by decide) ?_
          exact ih0 _ _ rv1 g4 hf _ (lv_sub hl [1, 2, 0] rfl)
        · replace hf := (if_neg c7).symm.trans hf
          obtain ⟨g5, hf⟩ := gd hf
          refine lv_iinc (v := iN (v1 + 1)) (lv' := [(1, .int (iN (v1 + 1))), (0, .ref (a 25)), (2, .int (iN v2))]) hx hb dX5_countSeated_25 hl (k := 1) rfl (iN_add v1 1) (by decide) rfl (fun ls hl => ?_)
          obtain ⟨g6, hf⟩ := gd hf
          refine lv_iinc (v := iN (v2 + 1)) (lv' := [(2, .int (iN (v2 + 1))), (1, .int (iN (v1 + 1))), (0, .ref (a 25))]) hx hb dX5_countSeated_28 hl (k := 2) rfl (iN_add v2 1) (by decide) rfl (fun ls hl => ?_)
          refine lv_goto (tgt := 4) hx hb dX5_countSeated_31 (by decide) ?_
          exact ih0 _ _ g5 g6 hf _ (lv_sub hl [2, 1, 0] rfl)
  refine L_fX5_countSeated_25_L4 _ (fun v9 v10 rv9 rv10 hf ls hl => ?_) _ _ _ (by decide) (by decide) hf _ (lv_sub hl [2, 1, 0] rfl)
  refine lv_iload_n hx hb dX5_countSeated_34 rfl (lv_at hl 1 rfl) ?_
  rw [← hQQ]
  exact x_iret hx hb hr (Option.some.inj hf) rv9 hlocks dX5_countSeated_35
def fX6_count_0 (σ : Mem) (x1 : Int) : Option Int := (fX6_isWorked_0 σ ).bind fun v1 => if v1 = 0 then some (-1) else if x1 = 0 then some (σ 25 3) else if x1 = 1 then some (σ 28 5) else if x1 = 2 then (fX1_countPairs_1 σ ).bind fun v5 => some v5 else if x1 = 3 then (fX5_countSeated_25 σ ).bind fun v7 => some v7 else some (-1)
set_option maxHeartbeats 4000000 in
set_option maxRecDepth 100000 in
theorem kX6_count_0 (l : Launch) (dC : Nat → ClassId) (dI : Nat → Nat → Nat) (cI : ClassId) (cA : ClassId) (a : Nat → Nat) (σ : Mem) (x1 : Int) (r : Int) (hf : fX6_count_0 σ x1 = some r) (hR : Rg σ) (rx1 : rng x1) : Met l yX6_count wsX6_count ({ frames := 2, cells := 0, slots := 0, locals := 45 }) (va_Pc [.ref (a 0), .int (iN x1)] (preC dC dI cI cA a σ)) (qP r) 0 0 (fun _ => False) := by
  refine Met.ofW (cc := cX6_count) (maxL := 2) (ret := (some .int)) (by decide) rfl ?_
  intro p e s m args below meth c s₁ B hml hv
  obtain ⟨hargs, hP, hK, hN⟩ := hv
  have hx := B.exec
  have hb := B.bytes
  have hr := B.returns
  have hts := atoms_spec (ws := wsX6_count) B.pre
  have hown : s.vm.findClass RX6 = some m.cls := findClass_of_methodNamed B.named
  have hlocks := B.notSynchronized
  have iX4 : ∀ w ∈ wsX40, w ∈ wsX6_count := by decide +kernel
  have iX5 : ∀ w ∈ wsX50, w ∈ wsX6_count := by decide +kernel
  have iX6 : ∀ w ∈ wsX60, w ∈ wsX6_count := by decide +kernel
  have fl12 := hts (.fieldLink RX6 12 "MatchHall" "hall" "LMatchHall$Hall;") (by decide +kernel)
  have fl31 := hts (.fieldLink RX6 31 "MatchHall" "stables" "LMatchHall$Stables;") (by decide +kernel)
  have fl40 := hts (.fieldLink RX6 40 "MatchHall" "rotations" "LMatchHall$Rotations;") (by decide +kernel)
  have fn105 := va_Nw.use (A := args) rfl (hN (.fieldLinkNest RX6 105 "MatchHall$Stables" "size" "I" "MatchHall") (by decide +kernel))
  have fn113 := va_Nw.use (A := args) rfl (hN (.fieldLinkNest RX6 113 "MatchHall$Rotations" "size" "I" "MatchHall") (by decide +kernel))
  have hrm : 2 ≤ (headSpec wsX6_count ({ frames := 2, cells := 0, slots := 0, locals := 45 })).room.frames ∧ 45 ≤ (headSpec wsX6_count ({ frames := 2, cells := 0, slots := 0, locals := 45 })).room.locals := ⟨Nat.le_refl _, Nat.le_refl _⟩
  generalize (headSpec wsX6_count ({ frames := 2, cells := 0, slots := 0, locals := 45 })).room = RR at hrm ⊢
  have hl := lv_entry ([.ref (a 0), .int (iN x1)]) (n := 2) (Nat.le_of_ble_eq_true rfl)
  rw [show entryFrame m args 2 = entryFrame m ([.ref (a 0), .int (iN x1)] : List Value).toArray 2 from by rw [hargs], lg_entry_eq]
  generalize (lg_sl ([.ref (a 0), .int (iN x1)]) ++ List.replicate (2 - (lg_sl ([.ref (a 0), .int (iN x1)])).length) Slot.unset).toArray = ls at hl ⊢
  have hl : lv_has ls 2 [(0, .ref (a 0)), (1, .int (iN x1))] := hl
  generalize hQQ : MQ below (qP r) args s 0 0 (fun _ => False) = QQ
  refine lv_aload_n hx hb dX6_count_0 rfl (lv_at hl 0 rfl) ?_
  obtain ⟨v1, hv1, hf⟩ := bd hf
  refine x_callP (va_runV (As := []) (rest := []) ⟨hx, hb, hml, hown, hts⟩ (kX6_isWorked_0 l dC dI cI cA a σ  v1 hv1 hR ) (cwV 0 hts gX6_count_X6_isWorked rfl rfl rfl hX6_isWorked_d ⟨Nat.le_trans (by decide) hrm.1, Nat.le_trans (by decide) hrm.2⟩) (pvC 0 (by decide) (cE_0 cI cA a (_)) rfl hP hK hN) rfl rfl hl.1 rfl (lv_room (Nat.le_of_ble_eq_true rfl)) dX6_count_1 ⟨Nat.zero_le _, Nat.zero_le _⟩) (fun rv1 => ?_)
  refine x_if_ne (tgt := 9) hx hb rv1 dX6_count_4 (by decide) (fun c8 => ?_) (fun c8 => ?_)
  · replace hf := (if_neg c8).symm.trans hf
    refine lv_iload_n hx hb dX6_count_9 rfl (lv_at hl 1 rfl) ?_
    by_cases c10_0_2 : x1 = 0
    · replace hf := (if_pos c10_0_2).symm.trans hf
      refine lv_tableIn (tgt := 40) hx hb dX6_count_10 (by rw [iN_t rx1]; omega) (by rw [iN_t rx1]; omega) (by rw [iN_t rx1, c10_0_2]; rfl) (by decide) ?_
      refine lv_aload_n hx hb dX6_count_40 rfl (lv_at hl 0 rfl) ?_
      refine x_get (C := RX6) (T := TX6) (NF := 6) (v := .ref (a 25)) hx hb hts iX6 hown hK hP 0 (by decide) (cE_0 cI cA a (_)) rfl 3 (by decide) fl31 rfl dX6_count_41 ?_
      refine x_getN (C := RX5) (T := TX5) (NF := 4) (v := .int (iN (σ 25 3))) hx hb hts iX5 hown hK hP 25 (by decide) (cE_25 cI cA a (_)) rfl 3 (by decide) fn105 rfl dX6_count_44 ?_
      rw [← hQQ]
      exact x_iret hx hb hr (Option.some.inj hf) (hR 25 3) hlocks dX6_count_47
    · replace hf := (if_neg c10_0_2).symm.trans hf
      by_cases c10_1_3 : x1 = 1
      · replace hf := (if_pos c10_1_3).symm.trans hf
        refine lv_tableIn (tgt := 48) hx hb dX6_count_10 (by rw [iN_t rx1]; omega) (by rw [iN_t rx1]; omega) (by rw [iN_t rx1, c10_1_3]; rfl) (by decide) ?_
        refine lv_aload_n hx hb dX6_count_48 rfl (lv_at hl 0 rfl) ?_
        refine x_get (C := RX6) (T := TX6) (NF := 6) (v := .ref (a 28)) hx hb hts iX6 hown hK hP 0 (by decide) (cE_0 cI cA a (_)) rfl 4 (by decide) fl40 rfl dX6_count_49 ?_
        refine x_getN (C := RX4) (T := TX4) (NF := 6) (v := .int (iN (σ 28 5))) hx hb hts iX4 hown hK hP 28 (by decide) (cE_28 cI cA a (_)) rfl 5 (by decide) fn113 rfl dX6_count_52 ?_
        rw [← hQQ]
        exact x_iret hx hb hr (Option.some.inj hf) (hR 28 5) hlocks dX6_count_55
      · replace hf := (if_neg c10_1_3).symm.trans hf
        by_cases c10_2_4 : x1 = 2
        · replace hf := (if_pos c10_2_4).symm.trans hf
          refine lv_tableIn (tgt := 56) hx hb dX6_count_10 (by rw [iN_t rx1]; omega) (by rw [iN_t rx1]; omega) (by rw [iN_t rx1, c10_2_4]; rfl) (by decide) ?_
          refine lv_aload_n hx hb dX6_count_56 rfl (lv_at hl 0 rfl) ?_
          refine x_get (C := RX6) (T := TX6) (NF := 6) (v := .ref (a 1)) hx hb hts iX6 hown hK hP 0 (by decide) (cE_0 cI cA a (_)) rfl 0 (by decide) fl12 rfl dX6_count_57 ?_
          obtain ⟨v5, hv5, hf⟩ := bd hf
          refine x_callP (va_runV (As := []) (rest := []) ⟨hx, hb, hml, hown, hts⟩ (kX1_countPairs_1 l dC dI cI cA a σ  v5 hv5 hR ) (cwV 0 hts gX6_count_X1_countPairs rfl rfl rfl hX1_countPairs_d ⟨Nat.le_trans (by decide) hrm.1, Nat.le_trans (by decide) hrm.2⟩) (pvC 1 (by decide) (cE_1 cI cA a (_)) rfl hP hK hN) rfl rfl hl.1 rfl (lv_room (Nat.le_of_ble_eq_true rfl)) dX6_count_60 ⟨Nat.zero_le _, Nat.zero_le _⟩) (fun rv5 => ?_)
          rw [← hQQ]
          exact x_iret hx hb hr (Option.some.inj hf) rv5 hlocks dX6_count_63
        · replace hf := (if_neg c10_2_4).symm.trans hf
          by_cases c10_3_6 : x1 = 3
          · replace hf := (if_pos c10_3_6).symm.trans hf
            refine lv_tableIn (tgt := 64) hx hb dX6_count_10 (by rw [iN_t rx1]; omega) (by rw [iN_t rx1]; omega) (by rw [iN_t rx1, c10_3_6]; rfl) (by decide) ?_
            refine lv_aload_n hx hb dX6_count_64 rfl (lv_at hl 0 rfl) ?_
            refine x_get (C := RX6) (T := TX6) (NF := 6) (v := .ref (a 25)) hx hb hts iX6 hown hK hP 0 (by decide) (cE_0 cI cA a (_)) rfl 3 (by decide) fl31 rfl dX6_count_65 ?_
            obtain ⟨v7, hv7, hf⟩ := bd hf
            refine x_callP (va_runV (As := []) (rest := []) ⟨hx, hb, hml, hown, hts⟩ (kX5_countSeated_25 l dC dI cI cA a σ  v7 hv7 hR ) (cwV 0 hts gX6_count_X5_countSeated rfl rfl rfl hX5_countSeated_d ⟨Nat.le_trans (by decide) hrm.1, Nat.le_trans (by decide) hrm.2⟩) (pvC 25 (by decide) (cE_25 cI cA a (_)) rfl hP hK hN) rfl rfl hl.1 rfl (lv_room (Nat.le_of_ble_eq_true rfl)) dX6_count_68 ⟨Nat.zero_le _, Nat.zero_le _⟩) (fun rv7 => ?_)
            rw [← hQQ]
            exact x_iret hx hb hr (Option.some.inj hf) rv7 hlocks dX6_count_71
          · replace hf := (if_neg c10_3_6).symm.trans hf
            refine lv_tableOut (tgt := 72) hx hb dX6_count_10 (by rw [iN_t rx1]; omega) (by decide) ?_
            refine lv_iconst (v := iN (-1)) hx hb dX6_count_72 rfl ?_
            rw [← hQQ]
            exact x_iret hx hb hr (Option.some.inj hf) (by decide) hlocks dX6_count_73
  · replace hf := (if_pos c8).symm.trans hf
    refine lv_iconst (v := iN (-1)) hx hb dX6_count_7 rfl ?_
    rw [← hQQ]
    exact x_iret hx hb hr (Option.some.inj hf) (by decide) hlocks dX6_count_8
def fX5_has_25 (σ : Mem) (x1 : Int) : Option Int := if x1 < 0 then some 0 else if x1 < (σ 25 3) then some 1 else some 0
set_option maxHeartbeats 4000000 in
set_option maxRecDepth 100000 in
theorem kX5_has_25 (l : Launch) (dC : Nat → ClassId) (dI : Nat → Nat → Nat) (cI : ClassId) (cA : ClassId) (a : Nat → Nat) (σ : Mem) (x1 : Int) (r : Int) (hf : fX5_has_25 σ x1 = some r) (hR : Rg σ) (rx1 : rng x1) : Met l yX5_has wsX5_has ({ frames := 0, cells := 0, slots := 0, locals := 0 }) (va_Pc [.ref (a 25), .int (iN x1)] (preC dC dI cI cA a σ)) (qP r) 0 0 (fun _ => False) := by
  refine Met.ofW (cc := cX5_has) (maxL := 2) (ret := (some .boolean)) (by decide) rfl ?_
  intro p e s m args below meth c s₁ B hml hv
  obtain ⟨hargs, hP, hK, hN⟩ := hv
  have hx := B.exec
  have hb := B.bytes
  have hr := B.returns
  have hts := atoms_spec (ws := wsX5_has) B.pre
  have hown : s.vm.findClass RX5 = some m.cls := findClass_of_methodNamed B.named
  have hlocks := B.notSynchronized
  have iX5 : ∀ w ∈ wsX50, w ∈ wsX5_has := by decide +kernel
  have fl22 := hts (.fieldLink RX5 22 "MatchHall$Stables" "size" "I") (by decide +kernel)
  have hrm : 0 ≤ (headSpec wsX5_has ({ frames := 0, cells := 0, slots := 0, locals := 0 })).room.frames ∧ 0 ≤ (headSpec wsX5_has ({ frames := 0, cells := 0, slots := 0, locals := 0 })).room.locals := ⟨Nat.le_refl _, Nat.le_refl _⟩
  generalize (headSpec wsX5_has ({ frames := 0, cells := 0, slots := 0, locals := 0 })).room = RR at hrm ⊢
  have hl := lv_entry ([.ref (a 25), .int (iN x1)]) (n := 2) (Nat.le_of_ble_eq_true rfl)
  rw [show entryFrame m args 2 = entryFrame m ([.ref (a 25), .int (iN x1)] : List Value).toArray 2 from by rw [hargs], lg_entry_eq]
  generalize (lg_sl ([.ref (a 25), .int (iN x1)]) ++ List.replicate (2 - (lg_sl ([.ref (a 25), .int (iN x1)])).length) Slot.unset).toArray = ls at hl ⊢
  have hl : lv_has ls 2 [(0, .ref (a 25)), (1, .int (iN x1))] := hl
  generalize hQQ : MQ below (qP r) args s 0 0 (fun _ => False) = QQ
  refine lv_iload_n hx hb dX5_has_0 rfl (lv_at hl 1 rfl) ?_
  refine x_if_lt (tgt := 16) hx hb rx1 dX5_has_1 (by decide) (fun c2 => ?_) (fun c2 => ?_)
  · replace hf := (if_pos c2).symm.trans hf
    refine lv_iconst (v := iN 0) hx hb dX5_has_16 rfl ?_
    rw [← hQQ]
    exact x_zret hx hb hr (by decide) (Option.some.inj hf) (by decide) hlocks dX5_has_17
  · replace hf := (if_neg c2).symm.trans hf
    refine lv_iload_n hx hb dX5_has_4 rfl (lv_at hl 1 rfl) ?_
    refine lv_aload_n hx hb dX5_has_5 rfl (lv_at hl 0 rfl) ?_
    refine x_get (C := RX5) (T := TX5) (NF := 4) (v := .int (iN (σ 25 3))) hx hb hts iX5 hown hK hP 25 (by decide) (cE_25 cI cA a (_)) rfl 3 (by decide) fl22 rfl dX5_has_6 ?_
    refine x_icmp_ge (tgt := 16) hx hb rx1 (hR 25 3) dX5_has_9 (by decide) (fun c1 => ?_) (fun c1 => ?_)
    · replace hf := (if_neg c1).symm.trans hf
      refine lv_iconst (v := iN 0) hx hb dX5_has_16 rfl ?_
      rw [← hQQ]
      exact x_zret hx hb hr (by decide) (Option.some.inj hf) (by decide) hlocks dX5_has_17
    · replace hf := (if_pos c1).symm.trans hf
      refine lv_iconst (v := iN 1) hx hb dX5_has_12 rfl ?_
      refine lv_goto (tgt := 17) hx hb dX5_has_13 (by decide) ?_
      rw [← hQQ]
      exact x_zret hx hb hr (by decide) (Option.some.inj hf) (by decide) hlocks dX5_has_17
def fX1_hasResident_1 (σ : Mem) (x1 : Int) : Option Int := if x1 < 0 then some 0 else if x1 < (σ 1 3) then some 1 else some 0
set_option maxHeartbeats 4000000 in
set_option maxRecDepth 100000 in
theorem kX1_hasResident_1 (l : Launch) (dC : Nat → ClassId) (dI : Nat → Nat → Nat) (cI : ClassId) (cA : ClassId) (a : Nat → Nat) (σ : Mem) (x1 : Int) (r : Int) (hf : fX1_hasResident_1 σ x1 = some r) (hR : Rg σ) (rx1 : rng x1) : Met l yX1_hasResident wsX1_hasResident ({ frames := 0, cells := 0, slots := 0, locals := 0 }) (va_Pc [.ref (a 1), .int (iN x1)] (preC dC dI cI cA a σ)) (qP r) 0 0 (fun _ => False) := by
  refine Met.ofW (cc := cX1_hasResident) (maxL := 2) (ret := (some .boolean)) (by decide) rfl ?_
  intro p e s m args below meth c s₁ B hml hv
  obtain ⟨hargs, hP, hK, hN⟩ := hv
  have hx := B.exec
  have hb := B.bytes
  have hr := B.returns
  have hts := atoms_spec (ws := wsX1_hasResident) B.pre
  have hown : s.vm.findClass RX1 = some m.cls := findClass_of_methodNamed B.named
  have hlocks := B.notSynchronized
  have iX1 : ∀ w ∈ wsX10, w ∈ wsX1_hasResident := by decide +kernel
  have fl29 := hts (.fieldLink RX1 29 "MatchHall$Hall" "residents" "I") (by decide +kernel)
  have hrm : 0 ≤ (headSpec wsX1_hasResident ({ frames := 0, cells := 0, slots := 0, locals := 0 })).room.frames ∧ 0 ≤ (headSpec wsX1_hasResident ({ frames := 0, cells := 0, slots := 0, locals := 0 })).room.locals := ⟨Nat.le_refl _, Nat.le_refl _⟩
  generalize (headSpec wsX1_hasResident ({ frames := 0, cells := 0, slots := 0, locals := 0 })).room = RR at hrm ⊢
  have hl := lv_entry ([.ref (a 1), .int (iN x1)]) (n := 2) (Nat.le_of_ble_eq_true rfl)
  rw [show entryFrame m args 2 = entryFrame m ([.ref (a 1), .int (iN x1)] : List Value).toArray 2 from by rw [hargs], lg_entry_eq]
  generalize (lg_sl ([.ref (a 1), .int (iN x1)]) ++ List.replicate (2 - (lg_sl ([.ref (a 1), .int (iN x1)])).length) Slot.unset).toArray = ls at hl ⊢
  have hl : lv_has ls 2 [(0, .ref (a 1)), (1, .int (iN x1))] := hl
  generalize hQQ : MQ below (qP r) args s 0 0 (fun _ => False) = QQ
  refine lv_iload_n hx hb dX1_hasResident_0 rfl (lv_at hl 1 rfl) ?_
  refine x_if_lt (tgt := 16) hx hb rx1 dX1_hasResident_1 (by decide) (fun c2 => ?_) (fun c2 => ?_)
  · replace hf := (if_pos c2).symm.trans hf
    refine lv_iconst (v := iN 0) hx hb dX1_hasResident_16 rfl ?_
    rw [← hQQ]
    exact x_zret hx hb hr (by decide) (Option.some.inj hf) (by decide) hlocks dX1_hasResident_17
  · replace hf := (if_neg c2).symm.trans hf
    refine lv_iload_n hx hb dX1_hasResident_4 rfl (lv_at hl 1 rfl) ?_
    refine lv_aload_n hx hb dX1_hasResident_5 rfl (lv_at hl 0 rfl) ?_
    refine x_get (C := RX1) (T := TX1) (NF := 5) (v := .int (iN (σ 1 3))) hx hb hts iX1 hown hK hP 1 (by decide) (cE_1 cI cA a (_)) rfl 3 (by decide) fl29 rfl dX1_hasResident_6 ?_
    refine x_icmp_ge (tgt := 16) hx hb rx1 (hR 1 3) dX1_hasResident_9 (by decide) (fun c1 => ?_) (fun c1 => ?_)
    · replace hf := (if_neg c1).symm.trans hf
      refine lv_iconst (v := iN 0) hx hb dX1_hasResident_16 rfl ?_
      rw [← hQQ]
      exact x_zret hx hb hr (by decide) (Option.some.inj hf) (by decide) hlocks dX1_hasResident_17
    · replace hf := (if_pos c1).symm.trans hf
      refine lv_iconst (v := iN 1) hx hb dX1_hasResident_12 rfl ?_
      refine lv_goto (tgt := 17) hx hb dX1_hasResident_13 (by decide) ?_
      rw [← hQQ]
      exact x_zret hx hb hr (by decide) (Option.some.inj hf) (by decide) hlocks dX1_hasResident_17
def fX6_hospital_0 (σ : Mem) (x1 : Int) (x2 : Int) : Option Int := (fX5_has_25 σ x1).bind fun v1 => if v1 = 0 then some (-1) else (fX1_hasResident_1 σ x2).bind fun v2 => if v2 = 0 then some (-1) else (fX5_hospitalAt_25 σ x1 x2).bind fun v3 => some v3
set_option maxHeartbeats 4000000 in
set_option maxRecDepth 100000 in
theorem kX6_hospital_0 (l : Launch) (dC : Nat → ClassId) (dI : Nat → Nat → Nat) (cI : ClassId) (cA : ClassId) (a : Nat → Nat) (σ : Mem) (x1 : Int) (x2 : Int) (r : Int) (hf : fX6_hospital_0 σ x1 x2 = some r) (hR : Rg σ) (rx1 : rng x1) (rx2 : rng x2) : Met l yX6_hospital wsX6_hospital ({ frames := 1, cells := 0, slots := 0, locals := 22 }) (va_Pc [.ref (a 0), .int (iN x1), .int (iN x2)] (preC dC dI cI cA a σ)) (qP r) 0 0 (fun _ => False) := by
  refine Met.ofW (cc := cX6_hospital) (maxL := 3) (ret := (some .int)) (by decide) rfl ?_
  intro p e s m args below meth c s₁ B hml hv
  obtain ⟨hargs, hP, hK, hN⟩ := hv
  have hx := B.exec
  have hb := B.bytes
  have hr := B.returns
  have hts := atoms_spec (ws := wsX6_hospital) B.pre
  have hown : s.vm.findClass RX6 = some m.cls := findClass_of_methodNamed B.named
  have hlocks := B.notSynchronized
  have iX6 : ∀ w ∈ wsX60, w ∈ wsX6_hospital := by decide +kernel
  have fl12 := hts (.fieldLink RX6 12 "MatchHall" "hall" "LMatchHall$Hall;") (by decide +kernel)
  have fl31 := hts (.fieldLink RX6 31 "MatchHall" "stables" "LMatchHall$Stables;") (by decide +kernel)
  have hrm : 1 ≤ (headSpec wsX6_hospital ({ frames := 1, cells := 0, slots := 0, locals := 22 })).room.frames ∧ 22 ≤ (headSpec wsX6_hospital ({ frames := 1, cells := 0, slots := 0, locals := 22 })).room.locals := ⟨Nat.le_refl _, Nat.le_refl _⟩
  generalize (headSpec wsX6_hospital ({ frames := 1, cells := 0, slots := 0, locals := 22 })).room = RR at hrm ⊢
  have hl := lv_entry ([.ref (a 0), .int (iN x1), .int (iN x2)]) (n := 3) (Nat.le_of_ble_eq_true rfl)
  rw [show entryFrame m args 3 = entryFrame m ([.ref (a 0), .int (iN x1), .int (iN x2)] : List Value).toArray 3 from by rw [hargs], lg_entry_eq]
  generalize (lg_sl ([.ref (a 0), .int (iN x1), .int (iN x2)]) ++ List.replicate (3 - (lg_sl ([.ref (a 0), .int (iN x1), .int (iN x2)])).length) Slot.unset).toArray = ls at hl ⊢
  have hl : lv_has ls 3 [(0, .ref (a 0)), (1, .int (iN x1)), (2, .int (iN x2))] := hl
  generalize hQQ : MQ below (qP r) args s 0 0 (fun _ => False) = QQ
  refine lv_aload_n hx hb dX6_hospital_0 rfl (lv_at hl 0 rfl) ?_
  refine x_get (C := RX6) (T := TX6) (NF := 6) (v := .ref (a 25)) hx hb hts iX6 hown hK hP 0 (by decide) (cE_0 cI cA a (_)) rfl 3 (by decide) fl31 rfl dX6_hospital_1 ?_
  refine lv_iload_n hx hb dX6_hospital_4 rfl (lv_at hl 1 rfl) ?_
  obtain ⟨v1, hv1, hf⟩ := bd hf
  refine x_callP (va_runV (As := [.int (iN x1)]) (rest := []) ⟨hx, hb, hml, hown, hts⟩ (kX5_has_25 l dC dI cI cA a σ x1 v1 hv1 hR rx1) (cwV 1 hts gX6_hospital_X5_has rfl rfl rfl hX5_has_d ⟨Nat.le_trans (by decide) hrm.1, Nat.le_trans (by decide) hrm.2⟩) (pvC 25 (by decide) (cE_25 cI cA a (_)) rfl hP hK hN) rfl rfl hl.1 rfl (lv_room (Nat.le_of_ble_eq_true rfl)) dX6_hospital_5 ⟨Nat.zero_le _, Nat.zero_le _⟩) (fun rv1 => ?_)
  refine x_if_eq (tgt := 22) hx hb rv1 dX6_hospital_8 (by decide) (fun c5 => ?_) (fun c5 => ?_)
  · replace hf := (if_pos c5).symm.trans hf
    refine lv_iconst (v := iN (-1)) hx hb dX6_hospital_22 rfl ?_
    rw [← hQQ]
    exact x_iret hx hb hr (Option.some.inj hf) (by decide) hlocks dX6_hospital_23
  · replace hf := (if_neg c5).symm.trans hf
    refine lv_aload_n hx hb dX6_hospital_11 rfl (lv_at hl 0 rfl) ?_
    refine x_get (C := RX6) (T := TX6) (NF := 6) (v := .ref (a 1)) hx hb hts iX6 hown hK hP 0 (by decide) (cE_0 cI cA a (_)) rfl 0 (by decide) fl12 rfl dX6_hospital_12 ?_
    refine lv_iload_n hx hb dX6_hospital_15 rfl (lv_at hl 2 rfl) ?_
    obtain ⟨v2, hv2, hf⟩ := bd hf
    refine x_callP (va_runV (As := [.int (iN x2)]) (rest := []) ⟨hx, hb, hml, hown, hts⟩ (kX1_hasResident_1 l dC dI cI cA a σ x2 v2 hv2 hR rx2) (cwV 1 hts gX6_hospital_X1_hasResident rfl rfl rfl hX1_hasResident_d ⟨Nat.le_trans (by decide) hrm.1, Nat.le_trans (by decide) hrm.2⟩) (pvC 1 (by decide) (cE_1 cI cA a (_)) rfl hP hK hN) rfl rfl hl.1 rfl (lv_room (Nat.le_of_ble_eq_true rfl)) dX6_hospital_16 ⟨Nat.zero_le _, Nat.zero_le _⟩) (fun rv2 => ?_)
    refine x_if_ne (tgt := 24) hx hb rv2 dX6_hospital_19 (by decide) (fun c4 => ?_) (fun c4 => ?_)
    · replace hf := (if_neg c4).symm.trans hf
      refine lv_aload_n hx hb dX6_hospital_24 rfl (lv_at hl 0 rfl) ?_
      refine x_get (C := RX6) (T := TX6) (NF := 6) (v := .ref (a 25)) hx hb hts iX6 hown hK hP 0 (by decide) (cE_0 cI cA a (_)) rfl 3 (by decide) fl31 rfl dX6_hospital_25 ?_
      refine lv_iload_n hx hb dX6_hospital_28 rfl (lv_at hl 1 rfl) ?_
      refine lv_iload_n hx hb dX6_hospital_29 rfl (lv_at hl 2 rfl) ?_
      obtain ⟨v3, hv3, hf⟩ := bd hf
      refine x_callP (va_runV (As := [.int (iN x1), .int (iN x2)]) (rest := []) ⟨hx, hb, hml, hown, hts⟩ (kX5_hospitalAt_25 l dC dI cI cA a σ x1 x2 v3 hv3 hR rx1 rx2) (cwV 2 hts gX6_hospital_X5_hospitalAt rfl rfl rfl hX5_hospitalAt_d ⟨Nat.le_trans (by decide) hrm.1, Nat.le_trans (by decide) hrm.2⟩) (pvC 25 (by decide) (cE_25 cI cA a (_)) rfl hP hK hN) rfl rfl hl.1 rfl (lv_room (Nat.le_of_ble_eq_true rfl)) dX6_hospital_30 ⟨Nat.zero_le _, Nat.zero_le _⟩) (fun rv3 => ?_)
      rw [← hQQ]
      exact x_iret hx hb hr (Option.some.inj hf) rv3 hlocks dX6_hospital_33
    · replace hf := (if_pos c4).symm.trans hf
      refine lv_iconst (v := iN (-1)) hx hb dX6_hospital_22 rfl ?_
      rw [← hQQ]
      exact x_iret hx hb hr (Option.some.inj hf) (by decide) hlocks dX6_hospital_23
def fX5_placeAt_25 (σ : Mem) (x1 : Int) (x2 : Int) : Option Int := if rng (x1 * 6) then if rng ((x1 * 6) + x2) then if (0 : Int) ≤ ((x1 * 6) + x2) ∧ (((x1 * 6) + x2) : Int) < 1296 then some (σ 27 ((x1 * 6) + x2)) else none else none else none
set_option maxHeartbeats 4000000 in
set_option maxRecDepth 100000 in
theorem kX5_placeAt_25 (l : Launch) (dC : Nat → ClassId) (dI : Nat → Nat → Nat) (cI : ClassId) (cA : ClassId) (a : Nat → Nat) (σ : Mem) (x1 : Int) (x2 : Int) (r : Int) (hf : fX5_placeAt_25 σ x1 x2 = some r) (hR : Rg σ) (rx1 : rng x1) (rx2 : rng x2) : Met l yX5_placeAt wsX5_placeAt ({ frames := 0, cells := 0, slots := 0, locals := 0 }) (va_Pc [.ref (a 25), .int (iN x1), .int (iN x2)] (preC dC dI cI cA a σ)) (qP r) 0 0 (fun _ => False) := by
  refine Met.ofW (cc := cX5_placeAt) (maxL := 3) (ret := (some .int)) (by decide) rfl ?_
  intro p e s m args below meth c s₁ B hml hv
  obtain ⟨hargs, hP, hK, hN⟩ := hv
  have hx := B.exec
  have hb := B.bytes
  have hr := B.returns
  have hts := atoms_spec (ws := wsX5_placeAt) B.pre
  have hown : s.vm.findClass RX5 = some m.cls := findClass_of_methodNamed B.named
  have hlocks := B.notSynchronized
  have iX5 : ∀ w ∈ wsX50, w ∈ wsX5_placeAt := by decide +kernel
  have fl15 := hts (.fieldLink RX5 15 "MatchHall$Stables" "places" "[I") (by decide +kernel)
  have hrm : 0 ≤ (headSpec wsX5_placeAt ({ frames := 0, cells := 0, slots := 0, locals := 0 })).room.frames ∧ 0 ≤ (headSpec wsX5_placeAt ({ frames := 0, cells := 0, slots := 0, locals := 0 })).room.locals := ⟨Nat.le_refl _, Nat.le_refl _⟩
  generalize (headSpec wsX5_placeAt ({ frames := 0, cells := 0, slots := 0, locals := 0 })).room = RR at hrm ⊢
  have hl := lv_entry ([.ref (a 25), .int (iN x1), .int (iN x2)]) (n := 3) (Nat.le_of_ble_eq_true rfl)
  rw [show entryFrame m args 3 = entryFrame m ([.ref (a 25), .int (iN x1), .int (iN x2)] : List Value).toArray 3 from by rw [hargs], lg_entry_eq]
  generalize (lg_sl ([.ref (a 25), .int (iN x1), .int (iN x2)]) ++ List.replicate (3 - (lg_sl ([.ref (a 25), .int (iN x1), .int (iN x2)])).length) Slot.unset).toArray = ls at hl ⊢
  have hl : lv_has ls 3 [(0, .ref (a 25)), (1, .int (iN x1)), (2, .int (iN x2))] := hl
  generalize hQQ : MQ below (qP r) args s 0 0 (fun _ => False) = QQ
  refine lv_aload_n hx hb dX5_placeAt_0 rfl (lv_at hl 0 rfl) ?_
  refine x_get (C := RX5) (T := TX5) (NF := 4) (v := .ref (a 27)) hx hb hts iX5 hown hK hP 25 (by decide) (cE_25 cI cA a (_)) rfl 2 (by decide) fl15 rfl dX5_placeAt_1 ?_
  refine lv_iload_n hx hb dX5_placeAt_4 rfl (lv_at hl 1 rfl) ?_
  refine lv_bipush (v := iN 6) hx hb dX5_placeAt_5 (by decide) ?_
  obtain ⟨g1, hf⟩ := gd hf
  refine x_imul hx hb dX5_placeAt_7 ?_
  refine lv_iload_n hx hb dX5_placeAt_8 rfl (lv_at hl 2 rfl) ?_
  obtain ⟨g2, hf⟩ := gd hf
  refine x_iadd hx hb dX5_placeAt_9 ?_
  obtain ⟨g3, hf⟩ := gd hf
  refine x_iald hx hb hK hP 27 0 (by decide) (cE_27 cI cA a (_)) (by decide) rfl g3 dX5_placeAt_10 ?_
  rw [← hQQ]
  exact x_iret hx hb hr (Option.some.inj hf) (hR 27 ((x1 * 6) + x2)) hlocks dX5_placeAt_11
def fX1_placeOfResident_1 (σ : Mem) (x1 : Int) (x2 : Int) : Option Int := if (0 : Int) ≤ x1 ∧ (x1 : Int) < 6 then if (0 : Int) ≤ x2 ∧ (x2 : Int) < 6 then some (σ (13 + x1.toNat) x2) else none else none
set_option maxHeartbeats 4000000 in
set_option maxRecDepth 100000 in
theorem kX1_placeOfResident_1 (l : Launch) (dC : Nat → ClassId) (dI : Nat → Nat → Nat) (cI : ClassId) (cA : ClassId) (a : Nat → Nat) (σ : Mem) (x1 : Int) (x2 : Int) (r : Int) (hf : fX1_placeOfResident_1 σ x1 x2 = some r) (hR : Rg σ) (rx1 : rng x1) (rx2 : rng x2) : Met l yX1_placeOfResident wsX1_placeOfResident ({ frames := 0, cells := 0, slots := 0, locals := 0 }) (va_Pc [.ref (a 1), .int (iN x1), .int (iN x2)] (preC dC dI cI cA a σ)) (qP r) 0 0 (fun _ => False) := by
  refine Met.ofW (cc := cX1_placeOfResident) (maxL := 3) (ret := (some .int)) (by decide) rfl ?_
  intro p e s m args below meth c s₁ B hml hv
  obtain ⟨hargs, hP, hK, hN⟩ := hv
  have hx := B.exec
  have hb := B.bytes
  have hr := B.returns
  have hts := atoms_spec (ws := wsX1_placeOfResident) B.pre
  have hown : s.vm.findClass RX1 = some m.cls := findClass_of_methodNamed B.named
  have hlocks := B.notSynchronized
  have iX1 : ∀ w ∈ wsX10, w ∈ wsX1_placeOfResident := by decide +kernel
  have iX2 : ∀ w ∈ wsX20, w ∈ wsX1_placeOfResident := by decide +kernel
  have fl18 := hts (.fieldLink RX1 18 "MatchHall$Hall" "ofHospitals" "LMatchHall$Lists;") (by decide +kernel)
  have fn43 := va_Nw.use (A := args) rfl (hN (.fieldLinkNest RX1 43 "MatchHall$Lists" "places" "[[I" "MatchHall") (by decide +kernel))
  have hrm : 0 ≤ (headSpec wsX1_placeOfResident ({ frames := 0, cells := 0, slots := 0, locals := 0 })).room.frames ∧ 0 ≤ (headSpec wsX1_placeOfResident ({ frames := 0, cells := 0, slots := 0, locals := 0 })).room.locals := ⟨Nat.le_refl _, Nat.le_refl _⟩
  generalize (headSpec wsX1_placeOfResident ({ frames := 0, cells := 0, slots := 0, locals := 0 })).room = RR at hrm ⊢
  have hl := lv_entry ([.ref (a 1), .int (iN x1), .int (iN x2)]) (n := 3) (Nat.le_of_ble_eq_true rfl)
  rw [show entryFrame m args 3 = entryFrame m ([.ref (a 1), .int (iN x1), .int (iN x2)] : List Value).toArray 3 from by rw [hargs], lg_entry_eq]
  generalize (lg_sl ([.ref (a 1), .int (iN x1), .int (iN x2)]) ++ List.replicate (3 - (lg_sl ([.ref (a 1), .int (iN x1), .int (iN x2)])).length) Slot.unset).toArray = ls at hl ⊢
  have hl : lv_has ls 3 [(0, .ref (a 1)), (1, .int (iN x1)), (2, .int (iN x2))] := hl
  generalize hQQ : MQ below (qP r) args s 0 0 (fun _ => False) = QQ
  refine lv_aload_n hx hb dX1_placeOfResident_0 rfl (lv_at hl 0 rfl) ?_
  refine x_get (C := RX1) (T := TX1) (NF := 5) (v := .ref (a 11)) hx hb hts iX1 hown hK hP 1 (by decide) (cE_1 cI cA a (_)) rfl 1 (by decide) fl18 rfl dX1_placeOfResident_1 ?_
  refine x_getN (C := RX2) (T := TX2) (NF := 4) (v := .ref (a 12)) hx hb hts iX2 hown hK hP 11 (by decide) (cE_11 cI cA a (_)) rfl 0 (by decide) fn43 rfl dX1_placeOfResident_4 ?_
  refine lv_iload_n hx hb dX1_placeOfResident_7 rfl (lv_at hl 1 rfl) ?_
  obtain ⟨g1, hf⟩ := gd hf
  refine x_aald hx hb hK hP 12 1 (by decide) (cE_12 cI cA a (_)) (by decide) rfl g1 (row_f13 a g1) dX1_placeOfResident_8 ?_
  refine lv_iload_n hx hb dX1_placeOfResident_9 rfl (lv_at hl 2 rfl) ?_
  obtain ⟨g2, hf⟩ := gd hf
  refine x_iald hx hb hK hP (13 + x1.toNat) 0 (row_lt13 g1) (cE_row13 cI cA a g1 _) (by decide) rfl g2 dX1_placeOfResident_10 ?_
  rw [← hQQ]
  exact x_iret hx hb hr (Option.some.inj hf) (hR (13 + x1.toNat) x2) hlocks dX1_placeOfResident_11
def fX5_costOf_25_L11 (σ : Mem) (x1 : Int) (ex0 : Int → Int → Int → Int → Option Int) : Nat → Int → Int → Int → Int → Option Int
  | 0, _, _, _, _ => none
  | n0 + 1, v1, v2, v3, v4 => if v4 < (σ 1 3) then (fX5_hospitalAt_25 σ x1 v4).bind fun v5 => if v5 = (-1) then if rng (v4 + 1) then fX5_costOf_25_L11 σ x1 ex0 n0 v1 v2 v3 (v4 + 1) else none else (fX5_placeAt_25 σ x1 v4).bind fun v7 => (fX1_placeOfResident_1 σ v5 v4).bind fun v8 => if rng (v1 + v7) then if rng (v2 + v8) then if rng (v4 + 1) then fX5_costOf_25_L11 σ x1 ex0 n0 (v1 + v7) (v2 + v8) (zmax v3 (zmax v7 v8)) (v4 + 1) else none else none else none else ex0 v1 v2 v3 v4
def fX5_costOf_25 (σ : Mem) (x1 : Int) (x2 : Int) : Option Int := fX5_costOf_25_L11 σ x1 (fun v14 v15 v16 v17 => if x2 = 0 then some v14 else if x2 = 1 then some v15 else if x2 = 2 then if rng (v14 + v15) then some (v14 + v15) else none else if x2 = 3 then if rng (v14 - v15) then if rng (zabs (v14 - v15)) then some (zabs (v14 - v15)) else none else none else if x2 = 4 then some v16 else some (-1)) FU 0 0 (-1) 0
set_option maxHeartbeats 4000000 in
set_option maxRecDepth 100000 in
theorem kX5_costOf_25 (l : Launch) (dC : Nat → ClassId) (dI : Nat → Nat → Nat) (cI : ClassId) (cA : ClassId) (a : Nat → Nat) (σ : Mem) (x1 : Int) (x2 : Int) (r : Int) (hf : fX5_costOf_25 σ x1 x2 = some r) (hR : Rg σ) (rx1 : rng x1) (rx2 : rng x2) : Met l yX5_costOf wsX5_costOf ({ frames := 1, cells := 0, slots := 0, locals := 32 }) (va_Pc [.ref (a 25), .int (iN x1), .int (iN x2)] (preC dC dI cI cA a σ)) (qP r) 0 0 (fun _ => False) := by
  refine Met.ofW (cc := cX5_costOf) (maxL := 10) (ret := (some .int)) (by decide) rfl ?_
  intro p e s m args below meth c s₁ B hml hv
  obtain ⟨hargs, hP, hK, hN⟩ := hv
  have hx := B.exec
  have hb := B.bytes
  have hr := B.returns
  have hts := atoms_spec (ws := wsX5_costOf) B.pre
  have hown : s.vm.findClass RX5 = some m.cls := findClass_of_methodNamed B.named
  have hlocks := B.notSynchronized
  have iX1 : ∀ w ∈ wsX10, w ∈ wsX5_costOf := by decide +kernel
  have iX5 : ∀ w ∈ wsX50, w ∈ wsX5_costOf := by decide +kernel
  have fl18 := hts (.fieldLink RX5 18 "MatchHall$Stables" "hall" "LMatchHall$Hall;") (by decide +kernel)
  have fn37 := va_Nw.use (A := args) rfl (hN (.fieldLinkNest RX5 37 "MatchHall$Hall" "residents" "I" "MatchHall") (by decide +kernel))
  have hrm : 1 ≤ (headSpec wsX5_costOf ({ frames := 1, cells := 0, slots := 0, locals := 32 })).room.frames ∧ 32 ≤ (headSpec wsX5_costOf ({ frames := 1, cells := 0, slots := 0, locals := 32 })).room.locals := ⟨Nat.le_refl _, Nat.le_refl _⟩
  generalize (headSpec wsX5_costOf ({ frames := 1, cells := 0, slots := 0, locals := 32 })).room = RR at hrm ⊢
  have hl := lv_entry ([.ref (a 25), .int (iN x1), .int (iN x2)]) (n := 10) (Nat.le_of_ble_eq_true rfl)
  rw [show entryFrame m args 10 = entryFrame m ([.ref (a 25), .int (iN x1), .int (iN x2)] : List Value).toArray 10 from by rw [hargs], lg_entry_eq]
  generalize (lg_sl ([.ref (a 25), .int (iN x1), .int (iN x2)]) ++ List.replicate (10 - (lg_sl ([.ref (a 25), .int (iN x1), .int (iN x2)])).length) Slot.unset).toArray = ls at hl ⊢
  have hl : lv_has ls 10 [(0, .ref (a 25)), (1, .int (iN x1)), (2, .int (iN x2))] := hl
  generalize hQQ : MQ below (qP r) args s 0 0 (fun _ => False) = QQ
  refine lv_iconst (v := iN 0) hx hb dX5_costOf_0 rfl ?_
  refine lv_istore_n (lv' := [(3, .int (iN 0)), (0, .ref (a 25)), (1, .int (iN x1)), (2, .int (iN x2))]) hx hb dX5_costOf_1 rfl hl (by decide) rfl (fun ls hl => ?_)
  refine lv_iconst (v := iN 0) hx hb dX5_costOf_2 rfl ?_
  refine lv_istore (lv' := [(4, .int (iN 0)), (3, .int (iN 0)), (0, .ref (a 25)), (1, .int (iN x1)), (2, .int (iN x2))]) hx hb dX5_costOf_3 hl (by decide) rfl (fun ls hl => ?_)
  refine lv_iconst (v := iN (-1)) hx hb dX5_costOf_5 rfl ?_
  refine lv_istore (lv' := [(5, .int (iN (-1))), (4, .int (iN 0)), (3, .int (iN 0)), (0, .ref (a 25)), (1, .int (iN x1)), (2, .int (iN x2))]) hx hb dX5_costOf_6 hl (by decide) rfl (fun ls hl => ?_)
  refine lv_iconst (v := iN 0) hx hb dX5_costOf_8 rfl ?_
  refine lv_istore (lv' := [(6, .int (iN 0)), (5, .int (iN (-1))), (4, .int (iN 0)), (3, .int (iN 0)), (0, .ref (a 25)), (1, .int (iN x1)), (2, .int (iN x2))]) hx hb dX5_costOf_9 hl (by decide) rfl (fun ls hl => ?_)
  have L_fX5_costOf_25_L11 : ∀ (EX0 : Int → Int → Int → Int → Option Int), (∀ (v1 : Int) (v2 : Int) (v3 : Int) (v4 : Int), rng v1 → rng v2 → rng v3 → rng v4 → EX0 v1 v2 v3 v4 = some r → ∀ ls, lv_has ls 10 [(0, .ref (a 25)), (1, .int (iN x1)), (2, .int (iN x2)), (3, .int (iN v1)), (4, .int (iN v2)), (5, .int (iN v3)), (6, .int (iN v4))] → W p l e RR s m args below meth c s.heap [] 0 0 QQ (F0 m 92 ls [])) → ∀ n0 : Nat, ∀ (v1 : Int) (v2 : Int) (v3 : Int) (v4 : Int), rng v1 → rng v2 → rng v3 → rng v4 → fX5_costOf_25_L11 σ x1 EX0 n0 v1 v2 v3 v4 = some r → ∀ ls, lv_has ls 10 [(0, .ref (a 25)), (1, .int (iN x1)), (2, .int (iN x2)), (3, .int (iN v1)), (4, .int (iN v2)), (5, .int (iN v3)), (6, .int (iN v4))] → W p l e RR s m args below meth c s.heap [] 0 0 QQ (F0 m 11 ls []) := by
    intro EX0 hEX0 n0
    induction n0 with
    | zero => intro _ _ _ _ _ _ _ _ hf; cases hf
    | succ n0 ih0 =>
      intro v1 v2 v3 v4 rv1 rv2 rv3 rv4 hf ls hl
      rw [fX5_costOf_25_L11] at hf
      refine lv_iload hx hb dX5_costOf_11 (lv_at hl 6 rfl) ?_
      refine lv_aload_n hx hb dX5_costOf_13 rfl (lv_at hl 0 rfl) ?_
      refine x_get (C := RX5) (T := TX5) (NF := 4) (v := .ref (a 1)) hx hb hts iX5 hown hK hP 25 (by decide) (cE_25 cI cA a (_)) rfl 0 (by decide) fl18 rfl dX5_costOf_14 ?_
      refine x_getN (C := RX1) (T := TX1) (NF := 5) (v := .int (iN (σ 1 3))) hx hb hts iX1 hown hK hP 1 (by decide) (cE_1 cI cA a (_)) rfl 3 (by decide) fn37 rfl dX5_costOf_17 ?_
      refine x_icmp_ge (tgt := 92) hx hb rv4 (hR 1 3) dX5_costOf_20 (by decide) (fun c13 => ?_) (fun c13 => ?_)
      · replace hf := (if_neg c13).symm.trans hf
        exact hEX0 _ _ _ _ rv1 rv2 rv3 rv4 hf _ (lv_sub hl [0, 1, 2, 3, 4, 5, 6] rfl)
      · replace hf := (if_pos c13).symm.trans hf
        refine lv_aload_n hx hb dX5_costOf_23 rfl (lv_at hl 0 rfl) ?_
        refine lv_iload_n hx hb dX5_costOf_24 rfl (lv_at hl 1 rfl) ?_
        refine lv_iload hx hb dX5_costOf_25 (lv_at hl 6 rfl) ?_
        obtain ⟨v5, hv5, hf⟩ := bd hf
        refine x_callP (va_runV (As := [.int (iN x1), .int (iN v4)]) (rest := []) ⟨hx, hb, hml, hown, hts⟩ (kX5_hospitalAt_25 l dC dI cI cA a σ x1 v4 v5 hv5 hR rx1 rv4) (cwV 2 hts gX5_costOf_X5_hospitalAt rfl rfl rfl hX5_hospitalAt_d ⟨Nat.le_trans (by decide) hrm.1, Nat.le_trans (by decide) hrm.2⟩) (pvC 25 (by decide) (cE_25 cI cA a (_)) rfl hP hK hN) rfl rfl hl.1 rfl (lv_room (Nat.le_of_ble_eq_true rfl)) dX5_costOf_27 ⟨Nat.zero_le _, Nat.zero_le _⟩) (fun rv5 => ?_)
        refine lv_istore (lv' := [(7, .int (iN v5)), (0, .ref (a 25)), (1, .int (iN x1)), (2, .int (iN x2)), (3, .int (iN v1)), (4, .int (iN v2)), (5, .int (iN v3)), (6, .int (iN v4))]) hx hb dX5_costOf_30 hl (by decide) rfl (fun ls hl => ?_)
        refine lv_iload hx hb dX5_costOf_32 (lv_at hl 0 rfl) ?_
        refine lv_iconst (v := iN (-1)) hx hb dX5_costOf_34 rfl ?_
        refine x_icmp_eq (tgt := 86) hx hb rv5 (by decide) dX5_costOf_35 (by decide) (fun c12 => ?_) (fun c12 => ?_)
        · replace hf := (if_pos c12).symm.trans hf
          obtain ⟨g6, hf⟩ := gd hf
          refine lv_iinc (v := iN (v4 + 1)) (lv' := [(6, .int (iN (v4 + 1))), (7, .int (iN v5)), (0, .ref (a 25)), (1, .int (iN x1)), (2, .int (iN x2)), (3, .int (iN v1)), (4, .int (iN v2)), (5, .int (iN v3))]) hx hb dX5_costOf_86 hl (k := 7) rfl (iN_add v4 1) (by decide) rfl (fun ls hl => ?_)
          refine lv_goto (tgt := 11) hx hb dX5_costOf_89 (by decide) ?_
          exact ih0 _ _ _ _ rv1 rv2 rv3 g6 hf _ (lv_sub hl [2, 3, 4, 5, 6, 7, 0] rfl)
        · replace hf := (if_neg c12).symm.trans hf
          refine lv_aload_n hx hb dX5_costOf_38 rfl (lv_at hl 1 rfl) ?_
          refine lv_iload_n hx hb dX5_costOf_39 rfl (lv_at hl 2 rfl) ?_
          refine lv_iload hx hb dX5_costOf_40 (lv_at hl 7 rfl) ?_
          obtain ⟨v7, hv7, hf⟩ := bd hf
          refine x_callP (va_runV (As := [.int (iN x1), .int (iN v4)]) (rest := []) ⟨hx, hb, hml, hown, hts⟩ (kX5_placeAt_25 l dC dI cI cA a σ x1 v4 v7 hv7 hR rx1 rv4) (cwV 2 hts gX5_costOf_X5_placeAt rfl rfl rfl hX5_placeAt_d ⟨Nat.le_trans (by decide) hrm.1, Nat.le_trans (by decide) hrm.2⟩) (pvC 25 (by decide) (cE_25 cI cA a (_)) rfl hP hK hN) rfl rfl hl.1 rfl (lv_room (Nat.le_of_ble_eq_true rfl)) dX5_costOf_42 ⟨Nat.zero_le _, Nat.zero_le _⟩) (fun rv7 => ?_)
          refine lv_istore (lv' := [(8, .int (iN v7)), (7, .int (iN v5)), (0, .ref (a 25)), (1, .int (iN x1)), (2, .int (iN x2)), (3, .int (iN v1)), (4, .int (iN v2)), (5, .int (iN v3)), (6, .int (iN v4))]) hx hb dX5_costOf_45 hl (by decide) rfl (fun ls hl => ?_)
          refine lv_aload_n hx hb dX5_costOf_47 rfl (lv_at hl 2 rfl) ?_
          refine x_get (C := RX5) (T := TX5) (NF := 4) (v := .ref (a 1)) hx hb hts iX5 hown hK hP 25 (by decide) (cE_25 cI cA a (_)) rfl 0 (by decide) fl18 rfl dX5_costOf_48 ?_
          refine lv_iload hx hb dX5_costOf_51 (lv_at hl 1 rfl) ?_
          refine lv_iload hx hb dX5_costOf_53 (lv_at hl 8 rfl) ?_
          obtain ⟨v8, hv8, hf⟩ := bd hf
          refine x_callP (va_runV (As := [.int (iN v5), .int (iN v4)]) (rest := []) ⟨hx, hb, hml, hown, hts⟩ (kX1_placeOfResident_1 l dC dI cI cA a σ v5 v4 v8 hv8 hR rv5 rv4) (cwV 2 hts gX5_costOf_X1_placeOfResident rfl rfl rfl hX1_placeOfResident_d ⟨Nat.le_trans (by decide) hrm.1, Nat.le_trans (by decide) hrm.2⟩) (pvC 1 (by decide) (cE_1 cI cA a (_)) rfl hP hK hN) rfl rfl hl.1 rfl (lv_room (Nat.le_of_ble_eq_true rfl)) dX5_costOf_55 ⟨Nat.zero_le _, Nat.zero_le _⟩) (fun rv8 => ?_)
          refine lv_istore (lv' := [(9, .int (iN v8)), (8, .int (iN v7)), (7, .int (iN v5)), (0, .ref (a 25)), (1, .int (iN x1)), (2, .int (iN x2)), (3, .int (iN v1)), (4, .int (iN v2)), (5, .int (iN v3)), (6, .int (iN v4))]) hx hb dX5_costOf_58 hl (by decide) rfl (fun ls hl => ?_)
          refine lv_iload_n hx hb dX5_costOf_60 rfl (lv_at hl 6 rfl) ?_
          refine lv_iload hx hb dX5_costOf_61 (lv_at hl 1 rfl) ?_
          obtain ⟨g9, hf⟩ := gd hf
          refine x_iadd hx hb dX5_costOf_63 ?_
          refine lv_istore_n (lv' := [(3, .int (iN (v1 + v7))), (9, .int (iN v8)), (8, .int (iN v7)), (7, .int (iN v5)), (0, .ref (a 25)), (1, .int (iN x1)), (2, .int (iN x2)), (4, .int (iN v2)), (5, .int (iN v3)), (6, .int (iN v4))]) hx hb dX5_costOf_64 rfl hl (by decide) rfl (fun ls hl => ?_)
          refine lv_iload hx hb dX5_costOf_65 (lv_at hl 7 rfl) ?_
          refine lv_iload hx hb dX5_costOf_67 (lv_at hl 1 rfl) ?_
          obtain ⟨g10, hf⟩ := gd hf
          refine x_iadd hx hb dX5_costOf_69 ?_
          refine lv_istore (lv' := [(4, .int (iN (v2 + v8))), (3, .int (iN (v1 + v7))), (9, .int (iN v8)), (8, .int (iN v7)), (7, .int (iN v5)), (0, .ref (a 25)), (1, .int (iN x1)), (2, .int (iN x2)), (5, .int (iN v3)), (6, .int (iN v4))]) hx hb dX5_costOf_70 hl (by decide) rfl (fun ls hl => ?_)
          refine lv_iload hx hb dX5_costOf_72 (lv_at hl 8 rfl) ?_
          refine lv_iload hx hb dX5_costOf_74 (lv_at hl 3 rfl) ?_
          refine lv_iload hx hb dX5_costOf_76 (lv_at hl 2 rfl) ?_
          refine x_max rv7 rv8 hx hb (hml.trans hl.1.symm) hown (hts (.methodLink RX5 59 yJ9_max_7cf53) (by decide +kernel)) (hts (.static yJ9_max_7cf53) (by decide +kernel)) (hts (.initialized RJ9) (by decide +kernel)) (hts (.code yJ9_max_7cf53 cJ9_max_7cf53 2 (some .int)) (by decide +kernel)) (Nat.le_trans (by decide) hrm.1) (Nat.le_trans (Nat.le_of_ble_eq_true rfl) hrm.2) (Nat.zero_le _) (Nat.zero_le _) dX5_costOf_78 ?_
          refine x_max rv3 (zmax_rng rv7 rv8) hx hb (hml.trans hl.1.symm) hown (hts (.methodLink RX5 59 yJ9_max_7cf53) (by decide +kernel)) (hts (.static yJ9_max_7cf53) (by decide +kernel)) (hts (.initialized RJ9) (by decide +kernel)) (hts (.code yJ9_max_7cf53 cJ9_max_7cf53 2 (some .int)) (by decide +kernel)) (Nat.le_trans (by decide) hrm.1) (Nat.le_trans (Nat.le_of_ble_eq_true rfl) hrm.2) (Nat.zero_le _) (Nat.zero_le _) dX5_costOf_81 ?_
          refine lv_istore (lv' := [(5, .int (iN (zmax v3 (zmax v7 v8)))), (4, .int (iN (v2 + v8))), (3, .int (iN (v1 + v7))), (9, .int (iN v8)), (8, .int (iN v7)), (7, .int (iN v5)), (0, .ref (a 25)), (1, .int (iN x1)), (2, .int (iN x2)), (6, .int (iN v4))]) hx hb dX5_costOf_84 hl (by decide) rfl (fun ls hl => ?_)
          obtain ⟨g11, hf⟩ := gd hf
          refine lv_iinc (v := iN (v4 + 1)) (lv' := [(6, .int (iN (v4 + 1))), (5, .int (iN (zmax v3 (zmax v7 v8)))), (4, .int (iN (v2 + v8))), (3, .int (iN (v1 + v7))), (9, .int (iN v8)), (8, .int (iN v7)), (7, .int (iN v5)), (0, .ref (a 25)), (1, .int (iN x1)), (2, .int (iN x2))]) hx hb dX5_costOf_86 hl (k := 9) rfl (iN_add v4 1) (by decide) rfl (fun ls hl => ?_)
          refine lv_goto (tgt := 11) hx hb dX5_costOf_89 (by decide) ?_
          exact ih0 _ _ _ _ g9 g10 (zmax_rng rv3 (zmax_rng rv7 rv8)) g11 hf _ (lv_sub hl [7, 8, 9, 3, 2, 1, 0] rfl)
  refine L_fX5_costOf_25_L11 _ (fun v14 v15 v16 v17 rv14 rv15 rv16 rv17 hf ls hl => ?_) _ _ _ _ _ (by decide) (by decide) (by decide) (by decide) hf _ (lv_sub hl [4, 5, 6, 3, 2, 1, 0] rfl)
  refine lv_iload_n hx hb dX5_costOf_92 rfl (lv_at hl 2 rfl) ?_
  by_cases c93_0_18 : x2 = 0
  · replace hf := (if_pos c93_0_18).symm.trans hf
    refine lv_tableIn (tgt := 128) hx hb dX5_costOf_93 (by rw [iN_t rx2]; omega) (by rw [iN_t rx2]; omega) (by rw [iN_t rx2, c93_0_18]; rfl) (by decide) ?_
    refine lv_iload_n hx hb dX5_costOf_128 rfl (lv_at hl 3 rfl) ?_
    rw [← hQQ]
    exact x_iret hx hb hr (Option.some.inj hf) rv14 hlocks dX5_costOf_129
  · replace hf := (if_neg c93_0_18).symm.trans hf
    by_cases c93_1_19 : x2 = 1
    · replace hf := (if_pos c93_1_19).symm.trans hf
      refine lv_tableIn (tgt := 130) hx hb dX5_costOf_93 (by rw [iN_t rx2]; omega) (by rw [iN_t rx2]; omega) (by rw [iN_t rx2, c93_1_19]; rfl) (by decide) ?_
      refine lv_iload hx hb dX5_costOf_130 (lv_at hl 4 rfl) ?_
      rw [← hQQ]
      exact x_iret hx hb hr (Option.some.inj hf) rv15 hlocks dX5_costOf_132
    · replace hf := (if_neg c93_1_19).symm.trans hf
      by_cases c93_2_20 : x2 = 2
      · replace hf := (if_pos c93_2_20).symm.trans hf
        refine lv_tableIn (tgt := 133) hx hb dX5_costOf_93 (by rw [iN_t rx2]; omega) (by rw [iN_t rx2]; omega) (by rw [iN_t rx2, c93_2_20]; rfl) (by decide) ?_
        refine lv_iload_n hx hb dX5_costOf_133 rfl (lv_at hl 3 rfl) ?_
        refine lv_iload hx hb dX5_costOf_134 (lv_at hl 4 rfl) ?_
        obtain ⟨g21, hf⟩ := gd hf
        refine x_iadd hx hb dX5_costOf_136 ?_
        rw [← hQQ]
        exact x_iret hx hb hr (Option.some.inj hf) g21 hlocks dX5_costOf_137
      · replace hf := (if_neg c93_2_20).symm.trans hf
        by_cases c93_3_22 : x2 = 3
        · replace hf := (if_pos c93_3_22).symm.trans hf
          refine lv_tableIn (tgt := 138) hx hb dX5_costOf_93 (by rw [iN_t rx2]; omega) (by rw [iN_t rx2]; omega) (by rw [iN_t rx2, c93_3_22]; rfl) (by decide) ?_
          refine lv_iload_n hx hb dX5_costOf_138 rfl (lv_at hl 3 rfl) ?_
          refine lv_iload hx hb dX5_costOf_139 (lv_at hl 4 rfl) ?_
          obtain ⟨g23, hf⟩ := gd hf
          refine x_isub hx hb dX5_costOf_141 ?_
          obtain ⟨g24, hf⟩ := gd hf
          refine x_abs g23 hx hb (hml.trans hl.1.symm) hown (hts (.methodLink RX5 64 yJ9_abs_0f7a4) (by decide +kernel)) (hts (.static yJ9_abs_0f7a4) (by decide +kernel)) (hts (.initialized RJ9) (by decide +kernel)) (hts (.code yJ9_abs_0f7a4 cJ9_abs_0f7a4 1 (some .int)) (by decide +kernel)) (Nat.le_trans (by decide) hrm.1) (Nat.le_trans (Nat.le_of_ble_eq_true rfl) hrm.2) (Nat.zero_le _) (Nat.zero_le _) dX5_costOf_142 ?_
          rw [← hQQ]
          exact x_iret hx hb hr (Option.some.inj hf) g24 hlocks dX5_costOf_145
        · replace hf := (if_neg c93_3_22).symm.trans hf
          by_cases c93_4_25 : x2 = 4
          · replace hf := (if_pos c93_4_25).symm.trans hf
            refine lv_tableIn (tgt := 146) hx hb dX5_costOf_93 (by rw [iN_t rx2]; omega) (by rw [iN_t rx2]; omega) (by rw [iN_t rx2, c93_4_25]; rfl) (by decide) ?_
            refine lv_iload hx hb dX5_costOf_146 (lv_at hl 5 rfl) ?_
            rw [← hQQ]
            exact x_iret hx hb hr (Option.some.inj hf) rv16 hlocks dX5_costOf_148
          · replace hf := (if_neg c93_4_25).symm.trans hf
            refine lv_tableOut (tgt := 149) hx hb dX5_costOf_93 (by rw [iN_t rx2]; omega) (by decide) ?_
            refine lv_iconst (v := iN (-1)) hx hb dX5_costOf_149 rfl ?_
            rw [← hQQ]
            exact x_iret hx hb hr (Option.some.inj hf) (by decide) hlocks dX5_costOf_150
def fX6_cost_0 (σ : Mem) (x1 : Int) (x2 : Int) : Option Int := (fX5_has_25 σ x1).bind fun v1 => if v1 = 0 then some (-1) else (fX5_costOf_25 σ x1 x2).bind fun v2 => some v2
set_option maxHeartbeats 4000000 in
set_option maxRecDepth 100000 in
theorem kX6_cost_0 (l : Launch) (dC : Nat → ClassId) (dI : Nat → Nat → Nat) (cI : ClassId) (cA : ClassId) (a : Nat → Nat) (σ : Mem) (x1 : Int) (x2 : Int) (r : Int) (hf : fX6_cost_0 σ x1 x2 = some r) (hR : Rg σ) (rx1 : rng x1) (rx2 : rng x2) : Met l yX6_cost wsX6_cost ({ frames := 2, cells := 0, slots := 0, locals := 61 }) (va_Pc [.ref (a 0), .int (iN x1), .int (iN x2)] (preC dC dI cI cA a σ)) (qP r) 0 0 (fun _ => False) := by
  refine Met.ofW (cc := cX6_cost) (maxL := 3) (ret := (some .int)) (by decide) rfl ?_
  intro p e s m args below meth c s₁ B hml hv
  obtain ⟨hargs, hP, hK, hN⟩ := hv
  have hx := B.exec
  have hb := B.bytes
  have hr := B.returns
  have hts := atoms_spec (ws := wsX6_cost) B.pre
  have hown : s.vm.findClass RX6 = some m.cls := findClass_of_methodNamed B.named
  have hlocks := B.notSynchronized
  have iX6 : ∀ w ∈ wsX60, w ∈ wsX6_cost := by decide +kernel
  have fl31 := hts (.fieldLink RX6 31 "MatchHall" "stables" "LMatchHall$Stables;") (by decide +kernel)
  have hrm : 2 ≤ (headSpec wsX6_cost ({ frames := 2, cells := 0, slots := 0, locals := 61 })).room.frames ∧ 61 ≤ (headSpec wsX6_cost ({ frames := 2, cells := 0, slots := 0, locals := 61 })).room.locals := ⟨Nat.le_refl _, Nat.le_refl _⟩
  generalize (headSpec wsX6_cost ({ frames := 2, cells := 0, slots := 0, locals := 61 })).room = RR at hrm ⊢
  have hl := lv_entry ([.ref (a 0), .int (iN x1), .int (iN x2)]) (n := 3) (Nat.le_of_ble_eq_true rfl)
  rw [show entryFrame m args 3 = entryFrame m ([.ref (a 0), .int (iN x1), .int (iN x2)] : List Value).toArray 3 from by rw [hargs], lg_entry_eq]
  generalize (lg_sl ([.ref (a 0), .int (iN x1), .int (iN x2)]) ++ List.replicate (3 - (lg_sl ([.ref (a 0), .int (iN x1), .int (iN x2)])).length) Slot.unset).toArray = ls at hl ⊢
  have hl : lv_has ls 3 [(0, .ref (a 0)), (1, .int (iN x1)), (2, .int (iN x2))] := hl
  generalize hQQ : MQ below (qP r) args s 0 0 (fun _ => False) = QQ
  refine lv_aload_n hx hb dX6_cost_0 rfl (lv_at hl 0 rfl) ?_
  refine x_get (C := RX6) (T := TX6) (NF := 6) (v := .ref (a 25)) hx hb hts iX6 hown hK hP 0 (by decide) (cE_0 cI cA a (_)) rfl 3 (by decide) fl31 rfl dX6_cost_1 ?_
  refine lv_iload_n hx hb dX6_cost_4 rfl (lv_at hl 1 rfl) ?_
  obtain ⟨v1, hv1, hf⟩ := bd hf
  refine x_callP (va_runV (As := [.int (iN x1)]) (rest := []) ⟨hx, hb, hml, hown, hts⟩ (kX5_has_25 l dC dI cI cA a σ x1 v1 hv1 hR rx1) (cwV 1 hts gX6_cost_X5_has rfl rfl rfl hX5_has_d ⟨Nat.le_trans (by decide) hrm.1, Nat.le_trans (by decide) hrm.2⟩) (pvC 25 (by decide) (cE_25 cI cA a (_)) rfl hP hK hN) rfl rfl hl.1 rfl (lv_room (Nat.le_of_ble_eq_true rfl)) dX6_cost_5 ⟨Nat.zero_le _, Nat.zero_le _⟩) (fun rv1 => ?_)
  refine x_if_ne (tgt := 13) hx hb rv1 dX6_cost_8 (by decide) (fun c3 => ?_) (fun c3 => ?_)
  · replace hf := (if_neg c3).symm.trans hf
    refine lv_aload_n hx hb dX6_cost_13 rfl (lv_at hl 0 rfl) ?_
    refine x_get (C := RX6) (T := TX6) (NF := 6) (v := .ref (a 25)) hx hb hts iX6 hown hK hP 0 (by decide) (cE_0 cI cA a (_)) rfl 3 (by decide) fl31 rfl dX6_cost_14 ?_
    refine lv_iload_n hx hb dX6_cost_17 rfl (lv_at hl 1 rfl) ?_
    refine lv_iload_n hx hb dX6_cost_18 rfl (lv_at hl 2 rfl) ?_
    obtain ⟨v2, hv2, hf⟩ := bd hf
    refine x_callP (va_runV (As := [.int (iN x1), .int (iN x2)]) (rest := []) ⟨hx, hb, hml, hown, hts⟩ (kX5_costOf_25 l dC dI cI cA a σ x1 x2 v2 hv2 hR rx1 rx2) (cwV 2 hts gX6_cost_X5_costOf rfl rfl rfl hX5_costOf_d ⟨Nat.le_trans (by decide) hrm.1, Nat.le_trans (by decide) hrm.2⟩) (pvC 25 (by decide) (cE_25 cI cA a (_)) rfl hP hK hN) rfl rfl hl.1 rfl (lv_room (Nat.le_of_ble_eq_true rfl)) dX6_cost_19 ⟨Nat.zero_le _, Nat.zero_le _⟩) (fun rv2 => ?_)
    rw [← hQQ]
    exact x_iret hx hb hr (Option.some.inj hf) rv2 hlocks dX6_cost_22
  · replace hf := (if_pos c3).symm.trans hf
    refine lv_iconst (v := iN (-1)) hx hb dX6_cost_11 rfl ?_
    rw [← hQQ]
    exact x_iret hx hb hr (Option.some.inj hf) (by decide) hlocks dX6_cost_12
def fX6_cheapest_0_L22 (σ : Mem) (x1 : Int) (ex0 : Int → Int → Option Int) : Nat → Int → Int → Option Int
  | 0, _, _ => none
  | n0 + 1, v2, v3 => if v3 < (σ 25 3) then (fX5_costOf_25 σ v3 x1).bind fun v4 => (fX5_costOf_25 σ v2 x1).bind fun v5 => if v4 < v5 then if rng (v3 + 1) then fX6_cheapest_0_L22 σ x1 ex0 n0 v3 (v3 + 1) else none else if rng (v3 + 1) then fX6_cheapest_0_L22 σ x1 ex0 n0 v2 (v3 + 1) else none else ex0 v2 v3
def fX6_cheapest_0 (σ : Mem) (x1 : Int) : Option Int := (fX6_isWorked_0 σ ).bind fun v1 => if v1 = 0 then some (-1) else if x1 < 0 then some (-1) else if 4 < x1 then some (-1) else fX6_cheapest_0_L22 σ x1 (fun v10 v11 => some v10) FU 0 1
set_option maxHeartbeats 4000000 in
set_option maxRecDepth 100000 in
theorem kX6_cheapest_0 (l : Launch) (dC : Nat → ClassId) (dI : Nat → Nat → Nat) (cI : ClassId) (cA : ClassId) (a : Nat → Nat) (σ : Mem) (x1 : Int) (r : Int) (hf : fX6_cheapest_0 σ x1 = some r) (hR : Rg σ) (rx1 : rng x1) : Met l yX6_cheapest wsX6_cheapest ({ frames := 2, cells := 0, slots := 0, locals := 61 }) (va_Pc [.ref (a 0), .int (iN x1)] (preC dC dI cI cA a σ)) (qP r) 0 0 (fun _ => False) := by
  refine Met.ofW (cc := cX6_cheapest) (maxL := 4) (ret := (some .int)) (by decide) rfl ?_
  intro p e s m args below meth c s₁ B hml hv
  obtain ⟨hargs, hP, hK, hN⟩ := hv
  have hx := B.exec
  have hb := B.bytes
  have hr := B.returns
  have hts := atoms_spec (ws := wsX6_cheapest) B.pre
  have hown : s.vm.findClass RX6 = some m.cls := findClass_of_methodNamed B.named
  have hlocks := B.notSynchronized
  have iX5 : ∀ w ∈ wsX50, w ∈ wsX6_cheapest := by decide +kernel
  have iX6 : ∀ w ∈ wsX60, w ∈ wsX6_cheapest := by decide +kernel
  have fl31 := hts (.fieldLink RX6 31 "MatchHall" "stables" "LMatchHall$Stables;") (by decide +kernel)
  have fn105 := va_Nw.use (A := args) rfl (hN (.fieldLinkNest RX6 105 "MatchHall$Stables" "size" "I" "MatchHall") (by decide +kernel))
  have hrm : 2 ≤ (headSpec wsX6_cheapest ({ frames := 2, cells := 0, slots := 0, locals := 61 })).room.frames ∧ 61 ≤ (headSpec wsX6_cheapest ({ frames := 2, cells := 0, slots := 0, locals := 61 })).room.locals := ⟨Nat.le_refl _, Nat.le_refl _⟩
  generalize (headSpec wsX6_cheapest ({ frames := 2, cells := 0, slots := 0, locals := 61 })).room = RR at hrm ⊢
  have hl := lv_entry ([.ref (a 0), .int (iN x1)]) (n := 4) (Nat.le_of_ble_eq_true rfl)
  rw [show entryFrame m args 4 = entryFrame m ([.ref (a 0), .int (iN x1)] : List Value).toArray 4 from by rw [hargs], lg_entry_eq]
  generalize (lg_sl ([.ref (a 0), .int (iN x1)]) ++ List.replicate (4 - (lg_sl ([.ref (a 0), .int (iN x1)])).length) Slot.unset).toArray = ls at hl ⊢
  have hl : lv_has ls 4 [(0, .ref (a 0)), (1, .int (iN x1))] := hl
  generalize hQQ : MQ below (qP r) args s 0 0 (fun _ => False) = QQ
  refine lv_aload_n hx hb dX6_cheapest_0 rfl (lv_at hl 0 rfl) ?_
  obtain ⟨v1, hv1, hf⟩ := bd hf
  refine x_callP (va_runV (As := []) (rest := []) ⟨hx, hb, hml, hown, hts⟩ (kX6_isWorked_0 l dC dI cI cA a σ  v1 hv1 hR ) (cwV 0 hts gX6_cheapest_X6_isWorked rfl rfl rfl hX6_isWorked_d ⟨Nat.le_trans (by decide) hrm.1, Nat.le_trans (by decide) hrm.2⟩) (pvC 0 (by decide) (cE_0 cI cA a (_)) rfl hP hK hN) rfl rfl hl.1 rfl (lv_room (Nat.le_of_ble_eq_true rfl)) dX6_cheapest_1 ⟨Nat.zero_le _, Nat.zero_le _⟩) (fun rv1 => ?_)
  refine x_if_eq (tgt := 16) hx hb rv1 dX6_cheapest_4 (by decide) (fun c14 => ?_) (fun c14 => ?_)
  · replace hf := (if_pos c14).symm.trans hf
    refine lv_iconst (v := iN (-1)) hx hb dX6_cheapest_16 rfl ?_
    rw [← hQQ]
    exact x_iret hx hb hr (Option.some.inj hf) (by decide) hlocks dX6_cheapest_17
  · replace hf := (if_neg c14).symm.trans hf
    refine lv_iload_n hx hb dX6_cheapest_7 rfl (lv_at hl 1 rfl) ?_
    refine x_if_lt (tgt := 16) hx hb rx1 dX6_cheapest_8 (by decide) (fun c13 => ?_) (fun c13 => ?_)
    · replace hf := (if_pos c13).symm.trans hf
      refine lv_iconst (v := iN (-1)) hx hb dX6_cheapest_16 rfl ?_
      rw [← hQQ]
      exact x_iret hx hb hr (Option.some.inj hf) (by decide) hlocks dX6_cheapest_17
    · replace hf := (if_neg c13).symm.trans hf
      refine lv_iload_n hx hb dX6_cheapest_11 rfl (lv_at hl 1 rfl) ?_
      refine lv_iconst (v := iN 4) hx hb dX6_cheapest_12 rfl ?_
      refine x_icmp_le (tgt := 18) hx hb rx1 (by decide) dX6_cheapest_13 (by decide) (fun c12 => ?_) (fun c12 => ?_)
      · replace hf := (if_neg c12).symm.trans hf
        refine lv_iconst (v := iN 0) hx hb dX6_cheapest_18 rfl ?_
        refine lv_istore_n (lv' := [(2, .int (iN 0)), (0, .ref (a 0)), (1, .int (iN x1))]) hx hb dX6_cheapest_19 rfl hl (by decide) rfl (fun ls hl => ?_)
        refine lv_iconst (v := iN 1) hx hb dX6_cheapest_20 rfl ?_
        refine lv_istore_n (lv' := [(3, .int (iN 1)), (2, .int (iN 0)), (0, .ref (a 0)), (1, .int (iN x1))]) hx hb dX6_cheapest_21 rfl hl (by decide) rfl (fun ls hl => ?_)
        have L_fX6_cheapest_0_L22 : ∀ (EX0 : Int → Int → Option Int), (∀ (v2 : Int) (v3 : Int), rng v2 → rng v3 → EX0 v2 v3 = some r → ∀ ls, lv_has ls 4 [(0, .ref (a 0)), (1, .int (iN x1)), (2, .int (iN v2)), (3, .int (iN v3))] → W p l e RR s m args below meth c s.heap [] 0 0 QQ (F0 m 62 ls [])) → ∀ n0 : Nat, ∀ (v2 : Int) (v3 : Int), rng v2 → rng v3 → fX6_cheapest_0_L22 σ x1 EX0 n0 v2 v3 = some r → ∀ ls, lv_has ls 4 [(0, .ref (a 0)), (1, .int (iN x1)), (2, .int (iN v2)), (3, .int (iN v3))] → W p l e RR s m args below meth c s.heap [] 0 0 QQ (F0 m 22 ls []) := by
          intro EX0 hEX0 n0
          induction n0 with
          | zero => intro _ _ _ _ hf; cases hf
          | succ n0 ih0 =>
            intro v2 v3 rv2 rv3 hf ls hl
            rw [fX6_cheapest_0_L22] at hf
            refine lv_iload_n hx hb dX6_cheapest_22 rfl (lv_at hl 3 rfl) ?_
            refine lv_aload_n hx hb dX6_cheapest_23 rfl (lv_at hl 0 rfl) ?_
            refine x_get (C := RX6) (T := TX6) (NF := 6) (v := .ref (a 25)) hx hb hts iX6 hown hK hP 0 (by decide) (cE_0 cI cA a (_)) rfl 3 (by decide) fl31 rfl dX6_cheapest_24 ?_
            refine x_getN (C := RX5) (T := TX5) (NF := 4) (v := .int (iN (σ 25 3))) hx hb hts iX5 hown hK hP 25 (by decide) (cE_25 cI cA a (_)) rfl 3 (by decide) fn105 rfl dX6_cheapest_27 ?_
            refine x_icmp_ge (tgt := 62) hx hb rv3 (hR 25 3) dX6_cheapest_30 (by decide) (fun c9 => ?_) (fun c9 => ?_)
            · replace hf := (if_neg c9).symm.trans hf
              exact hEX0 _ _ rv2 rv3 hf _ (lv_sub hl [0, 1, 2, 3] rfl)
            · replace hf := (if_pos c9).symm.trans hf
              refine lv_aload_n hx hb dX6_cheapest_33 rfl (lv_at hl 0 rfl) ?_
              refine x_get (C := RX6) (T := TX6) (NF := 6) (v := .ref (a 25)) hx hb hts iX6 hown hK hP 0 (by decide) (cE_0 cI cA a (_)) rfl 3 (by decide) fl31 rfl dX6_cheapest_34 ?_
              refine lv_iload_n hx hb dX6_cheapest_37 rfl (lv_at hl 3 rfl) ?_
              refine lv_iload_n hx hb dX6_cheapest_38 rfl (lv_at hl 1 rfl) ?_
              obtain ⟨v4, hv4, hf⟩ := bd hf
              refine x_callP (va_runV (As := [.int (iN v3), .int (iN x1)]) (rest := []) ⟨hx, hb, hml, hown, hts⟩ (kX5_costOf_25 l dC dI cI cA a σ v3 x1 v4 hv4 hR rv3 rx1) (cwV 2 hts gX6_cheapest_X5_costOf rfl rfl rfl hX5_costOf_d ⟨Nat.le_trans (by decide) hrm.1, Nat.le_trans (by decide) hrm.2⟩) (pvC 25 (by decide) (cE_25 cI cA a (_)) rfl hP hK hN) rfl rfl hl.1 rfl (lv_room (Nat.le_of_ble_eq_true rfl)) dX6_cheapest_39 ⟨Nat.zero_le _, Nat.zero_le _⟩) (fun rv4 => ?_)
              refine lv_aload_n hx hb dX6_cheapest_42 rfl (lv_at hl 0 rfl) ?_
              refine x_get (C := RX6) (T := TX6) (NF := 6) (v := .ref (a 25)) hx hb hts iX6 hown hK hP 0 (by decide) (cE_0 cI cA a (_)) rfl 3 (by decide) fl31 rfl dX6_cheapest_43 ?_
              refine lv_iload_n hx hb dX6_cheapest_46 rfl (lv_at hl 2 rfl) ?_
              refine lv_iload_n hx hb dX6_cheapest_47 rfl (lv_at hl 1 rfl) ?_
              obtain ⟨v5, hv5, hf⟩ := bd hf
              refine x_callP (va_runV (As := [.int (iN v2), .int (iN x1)]) (rest := [.int (iN v4)]) ⟨hx, hb, hml, hown, hts⟩ (kX5_costOf_25 l dC dI cI cA a σ v2 x1 v5 hv5 hR rv2 rx1) (cwV 2 hts gX6_cheapest_X5_costOf rfl rfl rfl hX5_costOf_d ⟨Nat.le_trans (by decide) hrm.1, Nat.le_trans (by decide) hrm.2⟩) (pvC 25 (by decide) (cE_25 cI cA a (_)) rfl hP hK hN) rfl rfl hl.1 rfl (lv_room (Nat.le_of_ble_eq_true rfl)) dX6_cheapest_48 ⟨Nat.zero_le _, Nat.zero_le _⟩) (fun rv5 => ?_)
              refine x_icmp_ge (tgt := 56) hx hb rv4 rv5 dX6_cheapest_51 (by decide) (fun c8 => ?_) (fun c8 => ?_)
              · replace hf := (if_neg c8).symm.trans hf
                obtain ⟨g6, hf⟩ := gd hf
                refine lv_iinc (v := iN (v3 + 1)) (lv' := [(3, .int (iN (v3 + 1))), (0, .ref (a 0)), (1, .int (iN x1)), (2, .int (iN v2))]) hx hb dX6_cheapest_56 hl (k := 3) rfl (iN_add v3 1) (by decide) rfl (fun ls hl => ?_)
                refine lv_goto (tgt := 22) hx hb dX6_cheapest_59 (by decide) ?_
                exact ih0 _ _ rv2 g6 hf _ (lv_sub hl [1, 2, 3, 0] rfl)
              · replace hf := (if_pos c8).symm.trans hf
                refine lv_iload_n hx hb dX6_cheapest_54 rfl (lv_at hl 3 rfl) ?_
                refine lv_istore_n (lv' := [(2, .int (iN v3)), (0, .ref (a 0)), (1, .int (iN x1)), (3, .int (iN v3))]) hx hb dX6_cheapest_55 rfl hl (by decide) rfl (fun ls hl => ?_)
                obtain ⟨g7, hf⟩ := gd hf
                refine lv_iinc (v := iN (v3 + 1)) (lv' := [(3, .int (iN (v3 + 1))), (2, .int (iN v3)), (0, .ref (a 0)), (1, .int (iN x1))]) hx hb dX6_cheapest_56 hl (k := 3) rfl (iN_add v3 1) (by decide) rfl (fun ls hl => ?_)
                refine lv_goto (tgt := 22) hx hb dX6_cheapest_59 (by decide) ?_
                exact ih0 _ _ rv3 g7 hf _ (lv_sub hl [2, 3, 1, 0] rfl)
        refine L_fX6_cheapest_0_L22 _ (fun v10 v11 rv10 rv11 hf ls hl => ?_) _ _ _ (by decide) (by decide) hf _ (lv_sub hl [2, 3, 1, 0] rfl)
        refine lv_iload_n hx hb dX6_cheapest_62 rfl (lv_at hl 2 rfl) ?_
        rw [← hQQ]
        exact x_iret hx hb hr (Option.some.inj hf) rv10 hlocks dX6_cheapest_63
      · replace hf := (if_pos c12).symm.trans hf
        refine lv_iconst (v := iN (-1)) hx hb dX6_cheapest_16 rfl ?_
        rw [← hQQ]
        exact x_iret hx hb hr (Option.some.inj hf) (by decide) hlocks dX6_cheapest_17
