/-! WHAT IS THROWN: make, seats, tell, take of the class (printed by wip/whole/gen/lay3.py) -/
def xwL : List Cond := [.castable "java/lang/IllegalArgumentException" "java/lang/IllegalArgumentException", .castable "java/lang/IndexOutOfBoundsException" "java/lang/IndexOutOfBoundsException", .declares (Bundle.init0 "java/lang/RuntimeException"), .declares (Bundle.init0 "java/lang/Exception"), .declares (Bundle.init0 Bundle.tN)]
theorem xwL_form : ∀ w ∈ xwL, (∃ a b, w = .castable a b) ∨ ∃ x, w = .declares x := by
  intro w hw
  simp only [xwL, List.mem_cons, List.not_mem_nil, or_false] at hw
  rcases hw with rfl | rfl | rfl | rfl | rfl
  · exact Or.inl ⟨_, _, rfl⟩
  · exact Or.inl ⟨_, _, rfl⟩
  · exact Or.inr ⟨_, rfl⟩
  · exact Or.inr ⟨_, rfl⟩
  · exact Or.inr ⟨_, rfl⟩
def XW (U : State) : Prop := (∀ w ∈ xwL, va_Nw w U) ∧ va_Nc "java/lang/IllegalArgumentException" "java/lang/IndexOutOfBoundsException" U
theorem XW.warm {s U : State} (hW : s.WarmedH U.vm) (h : XW s) : XW U := ⟨fun w hw => by
  rcases xwL_form w hw with ⟨a, b, rfl⟩ | ⟨x, rfl⟩
  · exact va_Nw.warmC hW (h.1 _ hw)
  · exact va_Nw.warmD hW (h.1 _ hw), va_Nc.moved hW.alike h.2⟩
theorem XW.same {u U : State} (e : u.vm = U.vm) (h : XW u) : XW U := ⟨fun w hw => by
  rcases xwL_form w hw with ⟨a, b, rfl⟩ | ⟨x, rfl⟩
  · exact va_Nw.same rfl e (h.1 _ hw)
  · exact va_Nw.same rfl e (h.1 _ hw), va_Nc.moved (u := u) (U := U) (by rw [e]; exact Vm.Alike.refl _) h.2⟩
theorem XW.use {args : Array Value} {s : State} (h : XW s) : ∀ w ∈ xwL, w.before args s = true := fun w hw => by
  rcases xwL_form w hw with ⟨a, b, rfl⟩ | ⟨x, rfl⟩
  · exact va_Nw.use rfl (h.1 _ hw)
  · exact va_Nw.use rfl (h.1 _ hw)
abbrev zqU (A : Nat → Prop) (U : State) (H : Heap) : Prop := vx_Zq Bundle.tN "UNASSIGNED_STACK" Bundle.steD A U H
abbrev zqS (A : Nat → Prop) (U : State) (H : Heap) : Prop := vx_Zq Bundle.tN "SUPPRESSED_SENTINEL" Bundle.listD A U H
def preX (dC : Nat → ClassId) (dI : Nat → Nat → Nat) (cI cA : ClassId) (a : Nat → Nat) (σ : Mem) (U : State) : Prop := preC dC dI cI cA a σ U ∧ XW U ∧ zqU (gA 37 a) U U.heap ∧ zqS (gA 37 a) U U.heap
theorem fbX {dC : Nat → ClassId} {dI : Nat → Nat → Nat} {cI cA : ClassId} {a : Nat → Nat} {σ : Mem} {av : List Value} : FrameBlind (va_Pc av (preX dC dI cI cA a σ)) := fun _ U g mk q => ⟨q.1, ⟨q.2.1.1, va_K.moved (u := U) (U := U.calling g mk _) (Vm.Alike.refl U.vm) q.2.1.2.1, NW.same (u := U) (U := U.calling g mk _) rfl q.2.1.2.2⟩, XW.same (u := U) (U := U.calling g mk _) rfl q.2.2.1, vx_Zq.moved (u := U) (U := U.calling g mk _) (Vm.Alike.refl U.vm) q.2.2.2.1, vx_Zq.moved (u := U) (U := U.calling g mk _) (Vm.Alike.refl U.vm) q.2.2.2.2⟩
/-- E0 was thrown, nothing that was there has changed -/
def xT (E0 : String) : String → State → State → Prop := fun E st t => E = E0 ∧ st.heap.size ≤ t.heap.size ∧ ∀ q : Nat, q < st.heap.size → t.heap[q]? = st.heap[q]?
def gX6_make_0 (σ : Mem) (x1 : Int) (x2 : Int) : Option String := if x1 < 1 then some "java/lang/IllegalArgumentException" else if 6 < x1 then some "java/lang/IllegalArgumentException" else if x2 < 1 then some "java/lang/IllegalArgumentException" else if 6 < x2 then some "java/lang/IllegalArgumentException" else none
set_option maxHeartbeats 4000000 in
set_option maxRecDepth 100000 in
theorem tX6_make_0 (l : Launch) (dC : Nat → ClassId) (dI : Nat → Nat → Nat) (cI : ClassId) (cA : ClassId) (a : Nat → Nat) (σ : Mem) (x1 : Int) (x2 : Int) (r : String) (hf : gX6_make_0 σ x1 x2 = some r) (hst : l.stackTraces = false) (hR : Rg σ) (rx1 : rng x1) (rx2 : rng x2) : vx_Met l yX6_make wsX6_make ({ frames := 6, cells := 1, slots := 6, locals := 81 }) (va_Pc [.ref (a 0), .int (iN x1), .int (iN x2)] (preX dC dI cI cA a σ)) (fun _ _ _ _ => False) (xT r) 1 6 (fun _ => False) := by
  refine vx_ofW (cc := cX6_make) (maxL := 3) (ret := none) (by decide) rfl ?_
  intro p e s m args below meth c s₁ B hml hex hv
  obtain ⟨hargs, ⟨hP, hK, hN⟩, hW, hU, hZ⟩ := hv
  have hx := B.exec
  have hb := B.bytes
  have hr := B.returns
  have hts := atoms_spec (ws := wsX6_make) B.pre
  have hown : s.vm.findClass RX6 = some m.cls := findClass_of_methodNamed B.named
  have hlocks := B.notSynchronized
  have iX6 : ∀ w ∈ wsX60, w ∈ wsX6_make := by decide +kernel
  have fl12 := hts (.fieldLink RX6 12 "MatchHall" "hall" "LMatchHall$Hall;") (by decide +kernel)
  have hrm : 6 ≤ (headSpec wsX6_make ({ frames := 6, cells := 1, slots := 6, locals := 81 })).room.frames ∧ 81 ≤ (headSpec wsX6_make ({ frames := 6, cells := 1, slots := 6, locals := 81 })).room.locals := ⟨Nat.le_refl _, Nat.le_refl _⟩
  have hrc : 0 + 1 ≤ (headSpec wsX6_make ({ frames := 6, cells := 1, slots := 6, locals := 81 })).room.cells ∧ 0 + 6 ≤ (headSpec wsX6_make ({ frames := 6, cells := 1, slots := 6, locals := 81 })).room.slots := ⟨Nat.le_refl _, Nat.le_refl _⟩
  generalize (headSpec wsX6_make ({ frames := 6, cells := 1, slots := 6, locals := 81 })).room = RR at hrm hrc ⊢
  have hl := lv_entry ([.ref (a 0), .int (iN x1), .int (iN x2)]) (n := 3) (Nat.le_of_ble_eq_true rfl)
  rw [show entryFrame m args 3 = entryFrame m ([.ref (a 0), .int (iN x1), .int (iN x2)] : List Value).toArray 3 from by rw [hargs], lg_entry_eq]
  generalize (lg_sl ([.ref (a 0), .int (iN x1), .int (iN x2)]) ++ List.replicate (3 - (lg_sl ([.ref (a 0), .int (iN x1), .int (iN x2)])).length) Slot.unset).toArray = ls at hl ⊢
  have hl : lv_has ls 3 [(0, .ref (a 0)), (1, .int (iN x1)), (2, .int (iN x2))] := hl
  generalize hQQ : vx_MQ below (fun _ _ _ _ => False) (xT r) args s 1 6 (fun _ => False) = QQ
  refine lv_iload_n hx hb dX6_make_0 rfl (lv_at hl 1 rfl) ?_
  refine lv_iconst (v := iN 1) hx hb dX6_make_1 rfl ?_
  refine x_icmp_lt (tgt := 22) hx hb rx1 (by decide) dX6_make_2 (by decide) (fun c4 => ?_) (fun c4 => ?_)
  · replace hf := (if_pos c4).symm.trans hf
    have hE : "java/lang/IllegalArgumentException" = r := Option.some.inj hf
    subst hE
    rw [← hQQ]
    exact vx_throw0 (own := RX6) (cls := "java/lang/IllegalArgumentException") (names := ["java/lang/RuntimeException", "java/lang/Exception"]) (ik := 53) (ic := 55) hx hb hst hown (by decide +kernel) (by decide +kernel) (hts (.classLink RX6 53 "java/lang/IllegalArgumentException") (by decide +kernel)) (hts (.initialized "java/lang/IllegalArgumentException") (by decide +kernel)) (vx_hat (L := (vx_at0 RX6 55 "java/lang/IllegalArgumentException" ["java/lang/RuntimeException", "java/lang/Exception"])) (B := xwL) (fun w hw => hts w (List.mem_cons_of_mem _ (List.mem_append_right _ hw))) (by decide +kernel) (XW.use hW)) (by decide +kernel) hU hZ va_S.rf (hl.1.trans hml.symm) dX6_make_22 dX6_make_25 dX6_make_26 dX6_make_29 (fun x h9 => (hex x h9).elim) (Nat.lt_of_lt_of_le (by decide) hrm.1) (Nat.le_trans (by decide) hrm.2) hrc.1 hrc.2 hlocks (fun t _ h1 h2 => ⟨rfl, h1, h2⟩) (fun _ h9 => by cases h9) (by decide) (by decide)
  · replace hf := (if_neg c4).symm.trans hf
    refine lv_iload_n hx hb dX6_make_5 rfl (lv_at hl 1 rfl) ?_
    refine lv_bipush (v := iN 6) hx hb dX6_make_6 (by decide) ?_
    refine x_icmp_gt (tgt := 22) hx hb rx1 (by decide) dX6_make_8 (by decide) (fun c3 => ?_) (fun c3 => ?_)
    · replace hf := (if_pos c3).symm.trans hf
      have hE : "java/lang/IllegalArgumentException" = r := Option.some.inj hf
      subst hE
      rw [← hQQ]
      exact vx_throw0 (own := RX6) (cls := "java/lang/IllegalArgumentException") (names := ["java/lang/RuntimeException", "java/lang/Exception"]) (ik := 53) (ic := 55) hx hb hst hown (by decide +kernel) (by decide +kernel) (hts (.classLink RX6 53 "java/lang/IllegalArgumentException") (by decide +kernel)) (hts (.initialized "java/lang/IllegalArgumentException") (by decide +kernel)) (vx_hat (L := (vx_at0 RX6 55 "java/lang/IllegalArgumentException" ["java/lang/RuntimeException", "java/lang/Exception"])) (B := xwL) (fun w hw => hts w (List.mem_cons_of_mem _ (List.mem_append_right _ hw))) (by decide +kernel) (XW.use hW)) (by decide +kernel) hU hZ va_S.rf (hl.1.trans hml.symm) dX6_make_22 dX6_make_25 dX6_make_26 dX6_make_29 (fun x h9 => (hex x h9).elim) (Nat.lt_of_lt_of_le (by decide) hrm.1) (Nat.le_trans (by decide) hrm.2) hrc.1 hrc.2 hlocks (fun t _ h1 h2 => ⟨rfl, h1, h2⟩) (fun _ h9 => by cases h9) (by decide) (by decide)
    · replace hf := (if_neg c3).symm.trans hf
      refine lv_iload_n hx hb dX6_make_11 rfl (lv_at hl 2 rfl) ?_
      refine lv_iconst (v := iN 1) hx hb dX6_make_12 rfl ?_
      refine x_icmp_lt (tgt := 22) hx hb rx2 (by decide) dX6_make_13 (by decide) (fun c2 => ?_) (fun c2 => ?_)
      · replace hf := (if_pos c2).symm.trans hf
        have hE : "java/lang/IllegalArgumentException" = r := Option.some.inj hf
        subst hE
        rw [← hQQ]
        exact vx_throw0 (own := RX6) (cls := "java/lang/IllegalArgumentException") (names := ["java/lang/RuntimeException", "java/lang/Exception"]) (ik := 53) (ic := 55) hx hb hst hown (by decide +kernel) (by decide +kernel) (hts (.classLink RX6 53 "java/lang/IllegalArgumentException") (by decide +kernel)) (hts (.initialized "java/lang/IllegalArgumentException") (by decide +kernel)) (vx_hat (L := (vx_at0 RX6 55 "java/lang/IllegalArgumentException" ["java/lang/RuntimeException", "java/lang/Exception"])) (B := xwL) (fun w hw => hts w (List.mem_cons_of_mem _ (List.mem_append_right _ hw))) (by decide +kernel) (XW.use hW)) (by decide +kernel) hU hZ va_S.rf (hl.1.trans hml.symm) dX6_make_22 dX6_make_25 dX6_make_26 dX6_make_29 (fun x h9 => (hex x h9).elim) (Nat.lt_of_lt_of_le (by decide) hrm.1) (Nat.le_trans (by decide) hrm.2) hrc.1 hrc.2 hlocks (fun t _ h1 h2 => ⟨rfl, h1, h2⟩) (fun _ h9 => by cases h9) (by decide) (by decide)
      · replace hf := (if_neg c2).symm.trans hf
        refine lv_iload_n hx hb dX6_make_16 rfl (lv_at hl 2 rfl) ?_
        refine lv_bipush (v := iN 6) hx hb dX6_make_17 (by decide) ?_
        refine x_icmp_le (tgt := 30) hx hb rx2 (by decide) dX6_make_19 (by decide) (fun c1 => ?_) (fun c1 => ?_)
        · replace hf := (if_neg c1).symm.trans hf
          refine lv_aload_n hx hb dX6_make_30 rfl (lv_at hl 0 rfl) ?_
          refine x_get (C := RX6) (T := TX6) (NF := 6) (v := .ref (a 1)) hx hb hts iX6 hown hK hP 0 (by decide) (cE_0 cI cA a (_)) rfl 0 (by decide) fl12 rfl dX6_make_31 ?_
          refine lv_iload_n hx hb dX6_make_34 rfl (lv_at hl 1 rfl) ?_
          refine lv_iload_n hx hb dX6_make_35 rfl (lv_at hl 2 rfl) ?_
          cases hf
        · replace hf := (if_pos c1).symm.trans hf
          have hE : "java/lang/IllegalArgumentException" = r := Option.some.inj hf
          subst hE
          rw [← hQQ]
          exact vx_throw0 (own := RX6) (cls := "java/lang/IllegalArgumentException") (names := ["java/lang/RuntimeException", "java/lang/Exception"]) (ik := 53) (ic := 55) hx hb hst hown (by decide +kernel) (by decide +kernel) (hts (.classLink RX6 53 "java/lang/IllegalArgumentException") (by decide +kernel)) (hts (.initialized "java/lang/IllegalArgumentException") (by decide +kernel)) (vx_hat (L := (vx_at0 RX6 55 "java/lang/IllegalArgumentException" ["java/lang/RuntimeException", "java/lang/Exception"])) (B := xwL) (fun w hw => hts w (List.mem_cons_of_mem _ (List.mem_append_right _ hw))) (by decide +kernel) (XW.use hW)) (by decide +kernel) hU hZ va_S.rf (hl.1.trans hml.symm) dX6_make_22 dX6_make_25 dX6_make_26 dX6_make_29 (fun x h9 => (hex x h9).elim) (Nat.lt_of_lt_of_le (by decide) hrm.1) (Nat.le_trans (by decide) hrm.2) hrc.1 hrc.2 hlocks (fun t _ h1 h2 => ⟨rfl, h1, h2⟩) (fun _ h9 => by cases h9) (by decide) (by decide)
def gX6_seats_0 (σ : Mem) (x1 : Int) (x2 : Int) : Option String := (fX1_hasHospital_1 σ x1).bind fun v1 => if v1 = 0 then some "java/lang/IndexOutOfBoundsException" else if x2 < 1 then some "java/lang/IllegalArgumentException" else if 3 < x2 then some "java/lang/IllegalArgumentException" else none
set_option maxHeartbeats 4000000 in
set_option maxRecDepth 100000 in
theorem tX6_seats_0 (l : Launch) (dC : Nat → ClassId) (dI : Nat → Nat → Nat) (cI : ClassId) (cA : ClassId) (a : Nat → Nat) (σ : Mem) (x1 : Int) (x2 : Int) (r : String) (hf : gX6_seats_0 σ x1 x2 = some r) (hst : l.stackTraces = false) (hR : Rg σ) (rx1 : rng x1) (rx2 : rng x2) : vx_Met l yX6_seats wsX6_seats ({ frames := 6, cells := 1, slots := 6, locals := 81 }) (va_Pc [.ref (a 0), .int (iN x1), .int (iN x2)] (preX dC dI cI cA a σ)) (fun _ _ _ _ => False) (xT r) 1 6 (fun _ => False) := by
  refine vx_ofW (cc := cX6_seats) (maxL := 3) (ret := none) (by decide) rfl ?_
  intro p e s m args below meth c s₁ B hml hex hv
  obtain ⟨hargs, ⟨hP, hK, hN⟩, hW, hU, hZ⟩ := hv
  have hx := B.exec
  have hb := B.bytes
  have hr := B.returns
  have hts := atoms_spec (ws := wsX6_seats) B.pre
  have hown : s.vm.findClass RX6 = some m.cls := findClass_of_methodNamed B.named
  have hlocks := B.notSynchronized
  have iX1 : ∀ w ∈ wsX10, w ∈ wsX6_seats := by decide +kernel
  have iX6 : ∀ w ∈ wsX60, w ∈ wsX6_seats := by decide +kernel
  have fl12 := hts (.fieldLink RX6 12 "MatchHall" "hall" "LMatchHall$Hall;") (by decide +kernel)
  have fn73 := va_Nw.use (A := args) rfl (hN (.fieldLinkNest RX6 73 "MatchHall$Hall" "seatsOf" "[I" "MatchHall") (by decide +kernel))
  have hrm : 6 ≤ (headSpec wsX6_seats ({ frames := 6, cells := 1, slots := 6, locals := 81 })).room.frames ∧ 81 ≤ (headSpec wsX6_seats ({ frames := 6, cells := 1, slots := 6, locals := 81 })).room.locals := ⟨Nat.le_refl _, Nat.le_refl _⟩
  have hrc : 0 + 1 ≤ (headSpec wsX6_seats ({ frames := 6, cells := 1, slots := 6, locals := 81 })).room.cells ∧ 0 + 6 ≤ (headSpec wsX6_seats ({ frames := 6, cells := 1, slots := 6, locals := 81 })).room.slots := ⟨Nat.le_refl _, Nat.le_refl _⟩
  generalize (headSpec wsX6_seats ({ frames := 6, cells := 1, slots := 6, locals := 81 })).room = RR at hrm hrc ⊢
  have hl := lv_entry ([.ref (a 0), .int (iN x1), .int (iN x2)]) (n := 3) (Nat.le_of_ble_eq_true rfl)
  rw [show entryFrame m args 3 = entryFrame m ([.ref (a 0), .int (iN x1), .int (iN x2)] : List Value).toArray 3 from by rw [hargs], lg_entry_eq]
  generalize (lg_sl ([.ref (a 0), .int (iN x1), .int (iN x2)]) ++ List.replicate (3 - (lg_sl ([.ref (a 0), .int (iN x1), .int (iN x2)])).length) Slot.unset).toArray = ls at hl ⊢
  have hl : lv_has ls 3 [(0, .ref (a 0)), (1, .int (iN x1)), (2, .int (iN x2))] := hl
  generalize hQQ : vx_MQ below (fun _ _ _ _ => False) (xT r) args s 1 6 (fun _ => False) = QQ
  refine lv_aload_n hx hb dX6_seats_0 rfl (lv_at hl 0 rfl) ?_
  refine x_get (C := RX6) (T := TX6) (NF := 6) (v := .ref (a 1)) hx hb hts iX6 hown hK hP 0 (by decide) (cE_0 cI cA a (_)) rfl 0 (by decide) fl12 rfl dX6_seats_1 ?_
  refine lv_iload_n hx hb dX6_seats_4 rfl (lv_at hl 1 rfl) ?_
  obtain ⟨v1, hv1, hf⟩ := bd hf
  refine x_callP (va_runV (As := [.int (iN x1)]) (rest := []) ⟨hx, hb, hml, hown, hts⟩ (kX1_hasHospital_1 l dC dI cI cA a σ x1 v1 hv1 hR rx1) (cwV 1 hts gX6_seats_X1_hasHospital rfl rfl rfl hX1_hasHospital_d ⟨Nat.le_trans (by decide) hrm.1, Nat.le_trans (by decide) hrm.2⟩) (pvC 1 (by decide) (cE_1 cI cA a (_)) rfl hP hK hN) rfl rfl hl.1 rfl (lv_room (Nat.le_of_ble_eq_true rfl)) dX6_seats_5 ⟨Nat.zero_le _, Nat.zero_le _⟩) (fun rv1 => ?_)
  refine x_if_ne (tgt := 19) hx hb rv1 dX6_seats_8 (by decide) (fun c4 => ?_) (fun c4 => ?_)
  · replace hf := (if_neg c4).symm.trans hf
    refine lv_iload_n hx hb dX6_seats_19 rfl (lv_at hl 2 rfl) ?_
    refine lv_iconst (v := iN 1) hx hb dX6_seats_20 rfl ?_
    refine x_icmp_lt (tgt := 29) hx hb rx2 (by decide) dX6_seats_21 (by decide) (fun c3 => ?_) (fun c3 => ?_)
    · replace hf := (if_pos c3).symm.trans hf
      have hE : "java/lang/IllegalArgumentException" = r := Option.some.inj hf
      subst hE
      rw [← hQQ]
      exact vx_throw0 (own := RX6) (cls := "java/lang/IllegalArgumentException") (names := ["java/lang/RuntimeException", "java/lang/Exception"]) (ik := 53) (ic := 55) hx hb hst hown (by decide +kernel) (by decide +kernel) (hts (.classLink RX6 53 "java/lang/IllegalArgumentException") (by decide +kernel)) (hts (.initialized "java/lang/IllegalArgumentException") (by decide +kernel)) (vx_hat (L := (vx_at0 RX6 55 "java/lang/IllegalArgumentException" ["java/lang/RuntimeException", "java/lang/Exception"])) (B := xwL) (fun w hw => hts w (List.mem_cons_of_mem _ (List.mem_append_right _ hw))) (by decide +kernel) (XW.use hW)) (by decide +kernel) hU hZ va_S.rf (hl.1.trans hml.symm) dX6_seats_29 dX6_seats_32 dX6_seats_33 dX6_seats_36 (fun x h9 => (hex x h9).elim) (Nat.lt_of_lt_of_le (by decide) hrm.1) (Nat.le_trans (by decide) hrm.2) hrc.1 hrc.2 hlocks (fun t _ h1 h2 => ⟨rfl, h1, h2⟩) (fun _ h9 => by cases h9) (by decide) (by decide)
    · replace hf := (if_neg c3).symm.trans hf
      refine lv_iload_n hx hb dX6_seats_24 rfl (lv_at hl 2 rfl) ?_
      refine lv_iconst (v := iN 3) hx hb dX6_seats_25 rfl ?_
      refine x_icmp_le (tgt := 37) hx hb rx2 (by decide) dX6_seats_26 (by decide) (fun c2 => ?_) (fun c2 => ?_)
      · replace hf := (if_neg c2).symm.trans hf
        refine lv_aload_n hx hb dX6_seats_37 rfl (lv_at hl 0 rfl) ?_
        refine x_get (C := RX6) (T := TX6) (NF := 6) (v := .ref (a 1)) hx hb hts iX6 hown hK hP 0 (by decide) (cE_0 cI cA a (_)) rfl 0 (by decide) fl12 rfl dX6_seats_38 ?_
        refine x_getN (C := RX1) (T := TX1) (NF := 5) (v := .ref (a 20)) hx hb hts iX1 hown hK hP 1 (by decide) (cE_1 cI cA a (_)) rfl 2 (by decide) fn73 rfl dX6_seats_41 ?_
        refine lv_iload_n hx hb dX6_seats_44 rfl (lv_at hl 1 rfl) ?_
        refine lv_iload_n hx hb dX6_seats_45 rfl (lv_at hl 2 rfl) ?_
        cases hf
      · replace hf := (if_pos c2).symm.trans hf
        have hE : "java/lang/IllegalArgumentException" = r := Option.some.inj hf
        subst hE
        rw [← hQQ]
        exact vx_throw0 (own := RX6) (cls := "java/lang/IllegalArgumentException") (names := ["java/lang/RuntimeException", "java/lang/Exception"]) (ik := 53) (ic := 55) hx hb hst hown (by decide +kernel) (by decide +kernel) (hts (.classLink RX6 53 "java/lang/IllegalArgumentException") (by decide +kernel)) (hts (.initialized "java/lang/IllegalArgumentException") (by decide +kernel)) (vx_hat (L := (vx_at0 RX6 55 "java/lang/IllegalArgumentException" ["java/lang/RuntimeException", "java/lang/Exception"])) (B := xwL) (fun w hw => hts w (List.mem_cons_of_mem _ (List.mem_append_right _ hw))) (by decide +kernel) (XW.use hW)) (by decide +kernel) hU hZ va_S.rf (hl.1.trans hml.symm) dX6_seats_29 dX6_seats_32 dX6_seats_33 dX6_seats_36 (fun x h9 => (hex x h9).elim) (Nat.lt_of_lt_of_le (by decide) hrm.1) (Nat.le_trans (by decide) hrm.2) hrc.1 hrc.2 hlocks (fun t _ h1 h2 => ⟨rfl, h1, h2⟩) (fun _ h9 => by cases h9) (by decide) (by decide)
  · replace hf := (if_pos c4).symm.trans hf
    have hE : "java/lang/IndexOutOfBoundsException" = r := Option.some.inj hf
    subst hE
    rw [← hQQ]
    exact vx_throw0 (own := RX6) (cls := "java/lang/IndexOutOfBoundsException") (names := ["java/lang/RuntimeException", "java/lang/Exception"]) (ik := 70) (ic := 72) hx hb hst hown (by decide +kernel) (by decide +kernel) (hts (.classLink RX6 70 "java/lang/IndexOutOfBoundsException") (by decide +kernel)) (hts (.initialized "java/lang/IndexOutOfBoundsException") (by decide +kernel)) (vx_hat (L := (vx_at0 RX6 72 "java/lang/IndexOutOfBoundsException" ["java/lang/RuntimeException", "java/lang/Exception"])) (B := xwL) (fun w hw => hts w (List.mem_cons_of_mem _ (List.mem_append_left _ (List.mem_append_right _ hw)))) (by decide +kernel) (XW.use hW)) (by decide +kernel) hU hZ va_S.rf (hl.1.trans hml.symm) dX6_seats_11 dX6_seats_14 dX6_seats_15 dX6_seats_18 (fun x h9 => (hex x h9).elim) (Nat.lt_of_lt_of_le (by decide) hrm.1) (Nat.le_trans (by decide) hrm.2) hrc.1 hrc.2 hlocks (fun t _ h1 h2 => ⟨rfl, h1, h2⟩) (fun _ h9 => by cases h9) (by decide) (by decide)
def gX6_tell_0 (σ : Mem) (x1 : Int) (x2 : Int) : Option String := (fX1_hasResident_1 σ x1).bind fun v1 => if v1 = 0 then some "java/lang/IndexOutOfBoundsException" else if x2 = (-1) then none else (fX1_hasHospital_1 σ x2).bind fun v2 => if v2 = 0 then some "java/lang/IndexOutOfBoundsException" else none
set_option maxHeartbeats 4000000 in
set_option maxRecDepth 100000 in
theorem tX6_tell_0 (l : Launch) (dC : Nat → ClassId) (dI : Nat → Nat → Nat) (cI : ClassId) (cA : ClassId) (a : Nat → Nat) (σ : Mem) (x1 : Int) (x2 : Int) (r : String) (hf : gX6_tell_0 σ x1 x2 = some r) (hst : l.stackTraces = false) (hR : Rg σ) (rx1 : rng x1) (rx2 : rng x2) : vx_Met l yX6_tell wsX6_tell ({ frames := 6, cells := 1, slots := 6, locals := 81 }) (va_Pc [.ref (a 0), .int (iN x1), .int (iN x2)] (preX dC dI cI cA a σ)) (fun _ _ _ _ => False) (xT r) 1 6 (fun _ => False) := by
  refine vx_ofW (cc := cX6_tell) (maxL := 3) (ret := none) (by decide) rfl ?_
  intro p e s m args below meth c s₁ B hml hex hv
  obtain ⟨hargs, ⟨hP, hK, hN⟩, hW, hU, hZ⟩ := hv
  have hx := B.exec
  have hb := B.bytes
  have hr := B.returns
  have hts := atoms_spec (ws := wsX6_tell) B.pre
  have hown : s.vm.findClass RX6 = some m.cls := findClass_of_methodNamed B.named
  have hlocks := B.notSynchronized
  have iX3 : ∀ w ∈ wsX30, w ∈ wsX6_tell := by decide +kernel
  have iX6 : ∀ w ∈ wsX60, w ∈ wsX6_tell := by decide +kernel
  have fl12 := hts (.fieldLink RX6 12 "MatchHall" "hall" "LMatchHall$Hall;") (by decide +kernel)
  have fl21 := hts (.fieldLink RX6 21 "MatchHall" "told" "LMatchHall$Matching;") (by decide +kernel)
  have fn139 := va_Nw.use (A := args) rfl (hN (.fieldLinkNest RX6 139 "MatchHall$Matching" "hospitalOf" "[I" "MatchHall") (by decide +kernel))
  have hrm : 6 ≤ (headSpec wsX6_tell ({ frames := 6, cells := 1, slots := 6, locals := 81 })).room.frames ∧ 81 ≤ (headSpec wsX6_tell ({ frames := 6, cells := 1, slots := 6, locals := 81 })).room.locals := ⟨Nat.le_refl _, Nat.le_refl _⟩
  have hrc : 0 + 1 ≤ (headSpec wsX6_tell ({ frames := 6, cells := 1, slots := 6, locals := 81 })).room.cells ∧ 0 + 6 ≤ (headSpec wsX6_tell ({ frames := 6, cells := 1, slots := 6, locals := 81 })).room.slots := ⟨Nat.le_refl _, Nat.le_refl _⟩
  generalize (headSpec wsX6_tell ({ frames := 6, cells := 1, slots := 6, locals := 81 })).room = RR at hrm hrc ⊢
  have hl := lv_entry ([.ref (a 0), .int (iN x1), .int (iN x2)]) (n := 3) (Nat.le_of_ble_eq_true rfl)
  rw [show entryFrame m args 3 = entryFrame m ([.ref (a 0), .int (iN x1), .int (iN x2)] : List Value).toArray 3 from by rw [hargs], lg_entry_eq]
  generalize (lg_sl ([.ref (a 0), .int (iN x1), .int (iN x2)]) ++ List.replicate (3 - (lg_sl ([.ref (a 0), .int (iN x1), .int (iN x2)])).length) Slot.unset).toArray = ls at hl ⊢
  have hl : lv_has ls 3 [(0, .ref (a 0)), (1, .int (iN x1)), (2, .int (iN x2))] := hl
  generalize hQQ : vx_MQ below (fun _ _ _ _ => False) (xT r) args s 1 6 (fun _ => False) = QQ
  refine lv_aload_n hx hb dX6_tell_0 rfl (lv_at hl 0 rfl) ?_
  refine x_get (C := RX6) (T := TX6) (NF := 6) (v := .ref (a 1)) hx hb hts iX6 hown hK hP 0 (by decide) (cE_0 cI cA a (_)) rfl 0 (by decide) fl12 rfl dX6_tell_1 ?_
  refine lv_iload_n hx hb dX6_tell_4 rfl (lv_at hl 1 rfl) ?_
  obtain ⟨v1, hv1, hf⟩ := bd hf
  refine x_callP (va_runV (As := [.int (iN x1)]) (rest := []) ⟨hx, hb, hml, hown, hts⟩ (kX1_hasResident_1 l dC dI cI cA a σ x1 v1 hv1 hR rx1) (cwV 1 hts gX6_tell_X1_hasResident rfl rfl rfl hX1_hasResident_d ⟨Nat.le_trans (by decide) hrm.1, Nat.le_trans (by decide) hrm.2⟩) (pvC 1 (by decide) (cE_1 cI cA a (_)) rfl hP hK hN) rfl rfl hl.1 rfl (lv_room (Nat.le_of_ble_eq_true rfl)) dX6_tell_5 ⟨Nat.zero_le _, Nat.zero_le _⟩) (fun rv1 => ?_)
  refine x_if_ne (tgt := 19) hx hb rv1 dX6_tell_8 (by decide) (fun c5 => ?_) (fun c5 => ?_)
  · replace hf := (if_neg c5).symm.trans hf
    refine lv_iload_n hx hb dX6_tell_19 rfl (lv_at hl 2 rfl) ?_
    refine lv_iconst (v := iN (-1)) hx hb dX6_tell_20 rfl ?_
    refine x_icmp_eq (tgt := 43) hx hb rx2 (by decide) dX6_tell_21 (by decide) (fun c4 => ?_) (fun c4 => ?_)
    · replace hf := (if_pos c4).symm.trans hf
      refine lv_aload_n hx hb dX6_tell_43 rfl (lv_at hl 0 rfl) ?_
      refine x_get (C := RX6) (T := TX6) (NF := 6) (v := .ref (a 21)) hx hb hts iX6 hown hK hP 0 (by decide) (cE_0 cI cA a (_)) rfl 1 (by decide) fl21 rfl dX6_tell_44 ?_
      refine x_getN (C := RX3) (T := TX3) (NF := 2) (v := .ref (a 22)) hx hb hts iX3 hown hK hP 21 (by decide) (cE_21 cI cA a (_)) rfl 1 (by decide) fn139 rfl dX6_tell_47 ?_
      refine lv_iload_n hx hb dX6_tell_50 rfl (lv_at hl 1 rfl) ?_
      refine lv_iload_n hx hb dX6_tell_51 rfl (lv_at hl 2 rfl) ?_
      cases hf
    · replace hf := (if_neg c4).symm.trans hf
      refine lv_aload_n hx hb dX6_tell_24 rfl (lv_at hl 0 rfl) ?_
      refine x_get (C := RX6) (T := TX6) (NF := 6) (v := .ref (a 1)) hx hb hts iX6 hown hK hP 0 (by decide) (cE_0 cI cA a (_)) rfl 0 (by decide) fl12 rfl dX6_tell_25 ?_
      refine lv_iload_n hx hb dX6_tell_28 rfl (lv_at hl 2 rfl) ?_
      obtain ⟨v2, hv2, hf⟩ := bd hf
      refine x_callP (va_runV (As := [.int (iN x2)]) (rest := []) ⟨hx, hb, hml, hown, hts⟩ (kX1_hasHospital_1 l dC dI cI cA a σ x2 v2 hv2 hR rx2) (cwV 1 hts gX6_tell_X1_hasHospital rfl rfl rfl hX1_hasHospital_d ⟨Nat.le_trans (by decide) hrm.1, Nat.le_trans (by decide) hrm.2⟩) (pvC 1 (by decide) (cE_1 cI cA a (_)) rfl hP hK hN) rfl rfl hl.1 rfl (lv_room (Nat.le_of_ble_eq_true rfl)) dX6_tell_29 ⟨Nat.zero_le _, Nat.zero_le _⟩) (fun rv2 => ?_)
      refine x_if_ne (tgt := 43) hx hb rv2 dX6_tell_32 (by decide) (fun c3 => ?_) (fun c3 => ?_)
      · replace hf := (if_neg c3).symm.trans hf
        refine lv_aload_n hx hb dX6_tell_43 rfl (lv_at hl 0 rfl) ?_
        refine x_get (C := RX6) (T := TX6) (NF := 6) (v := .ref (a 21)) hx hb hts iX6 hown hK hP 0 (by decide) (cE_0 cI cA a (_)) rfl 1 (by decide) fl21 rfl dX6_tell_44 ?_
        refine x_getN (C := RX3) (T := TX3) (NF := 2) (v := .ref (a 22)) hx hb hts iX3 hown hK hP 21 (by decide) (cE_21 cI cA a (_)) rfl 1 (by decide) fn139 rfl dX6_tell_47 ?_
        refine lv_iload_n hx hb dX6_tell_50 rfl (lv_at hl 1 rfl) ?_
        refine lv_iload_n hx hb dX6_tell_51 rfl (lv_at hl 2 rfl) ?_
        cases hf
      · replace hf := (if_pos c3).symm.trans hf
        have hE : "java/lang/IndexOutOfBoundsException" = r := Option.some.inj hf
        subst hE
        rw [← hQQ]
        exact vx_throw0 (own := RX6) (cls := "java/lang/IndexOutOfBoundsException") (names := ["java/lang/RuntimeException", "java/lang/Exception"]) (ik := 70) (ic := 72) hx hb hst hown (by decide +kernel) (by decide +kernel) (hts (.classLink RX6 70 "java/lang/IndexOutOfBoundsException") (by decide +kernel)) (hts (.initialized "java/lang/IndexOutOfBoundsException") (by decide +kernel)) (vx_hat (L := (vx_at0 RX6 72 "java/lang/IndexOutOfBoundsException" ["java/lang/RuntimeException", "java/lang/Exception"])) (B := xwL) (fun w hw => hts w (List.mem_cons_of_mem _ (List.mem_append_right _ hw))) (by decide +kernel) (XW.use hW)) (by decide +kernel) hU hZ va_S.rf (hl.1.trans hml.symm) dX6_tell_35 dX6_tell_38 dX6_tell_39 dX6_tell_42 (fun x h9 => (hex x h9).elim) (Nat.lt_of_lt_of_le (by decide) hrm.1) (Nat.le_trans (by decide) hrm.2) hrc.1 hrc.2 hlocks (fun t _ h1 h2 => ⟨rfl, h1, h2⟩) (fun _ h9 => by cases h9) (by decide) (by decide)
  · replace hf := (if_pos c5).symm.trans hf
    have hE : "java/lang/IndexOutOfBoundsException" = r := Option.some.inj hf
    subst hE
    rw [← hQQ]
    exact vx_throw0 (own := RX6) (cls := "java/lang/IndexOutOfBoundsException") (names := ["java/lang/RuntimeException", "java/lang/Exception"]) (ik := 70) (ic := 72) hx hb hst hown (by decide +kernel) (by decide +kernel) (hts (.classLink RX6 70 "java/lang/IndexOutOfBoundsException") (by decide +kernel)) (hts (.initialized "java/lang/IndexOutOfBoundsException") (by decide +kernel)) (vx_hat (L := (vx_at0 RX6 72 "java/lang/IndexOutOfBoundsException" ["java/lang/RuntimeException", "java/lang/Exception"])) (B := xwL) (fun w hw => hts w (List.mem_cons_of_mem _ (List.mem_append_right _ hw))) (by decide +kernel) (XW.use hW)) (by decide +kernel) hU hZ va_S.rf (hl.1.trans hml.symm) dX6_tell_11 dX6_tell_14 dX6_tell_15 dX6_tell_18 (fun x h9 => (hex x h9).elim) (Nat.lt_of_lt_of_le (by decide) hrm.1) (Nat.le_trans (by decide) hrm.2) hrc.1 hrc.2 hlocks (fun t _ h1 h2 => ⟨rfl, h1, h2⟩) (fun _ h9 => by cases h9) (by decide) (by decide)
def gX6_take_0 (σ : Mem) (x1 : Int) : Option String := (fX5_has_25 σ x1).bind fun v1 => if v1 = 0 then some "java/lang/IndexOutOfBoundsException" else none
set_option maxHeartbeats 4000000 in
set_option maxRecDepth 100000 in
theorem tX6_take_0 (l : Launch) (dC : Nat → ClassId) (dI : Nat → Nat → Nat) (cI : ClassId) (cA : ClassId) (a : Nat → Nat) (σ : Mem) (x1 : Int) (r : String) (hf : gX6_take_0 σ x1 = some r) (hst : l.stackTraces = false) (hR : Rg σ) (rx1 : rng x1) : vx_Met l yX6_take wsX6_take ({ frames := 6, cells := 1, slots := 6, locals := 81 }) (va_Pc [.ref (a 0), .int (iN x1)] (preX dC dI cI cA a σ)) (fun _ _ _ _ => False) (xT r) 1 6 (fun _ => False) := by
  refine vx_ofW (cc := cX6_take) (maxL := 2) (ret := none) (by decide) rfl ?_
  intro p e s m args below meth c s₁ B hml hex hv
  obtain ⟨hargs, ⟨hP, hK, hN⟩, hW, hU, hZ⟩ := hv
  have hx := B.exec
  have hb := B.bytes
  have hr := B.returns
  have hts := atoms_spec (ws := wsX6_take) B.pre
  have hown : s.vm.findClass RX6 = some m.cls := findClass_of_methodNamed B.named
  have hlocks := B.notSynchronized
  have iX6 : ∀ w ∈ wsX60, w ∈ wsX6_take := by decide +kernel
  have fl21 := hts (.fieldLink RX6 21 "MatchHall" "told" "LMatchHall$Matching;") (by decide +kernel)
  have fl31 := hts (.fieldLink RX6 31 "MatchHall" "stables" "LMatchHall$Stables;") (by decide +kernel)
  have hrm : 6 ≤ (headSpec wsX6_take ({ frames := 6, cells := 1, slots := 6, locals := 81 })).room.frames ∧ 81 ≤ (headSpec wsX6_take ({ frames := 6, cells := 1, slots := 6, locals := 81 })).room.locals := ⟨Nat.le_refl _, Nat.le_refl _⟩
  have hrc : 0 + 1 ≤ (headSpec wsX6_take ({ frames := 6, cells := 1, slots := 6, locals := 81 })).room.cells ∧ 0 + 6 ≤ (headSpec wsX6_take ({ frames := 6, cells := 1, slots := 6, locals := 81 })).room.slots := ⟨Nat.le_refl _, Nat.le_refl _⟩
  generalize (headSpec wsX6_take ({ frames := 6, cells := 1, slots := 6, locals := 81 })).room = RR at hrm hrc ⊢
  have hl := lv_entry ([.ref (a 0), .int (iN x1)]) (n := 2) (Nat.le_of_ble_eq_true rfl)
  rw [show entryFrame m args 2 = entryFrame m ([.ref (a 0), .int (iN x1)] : List Value).toArray 2 from by rw [hargs], lg_entry_eq]
  generalize (lg_sl ([.ref (a 0), .int (iN x1)]) ++ List.replicate (2 - (lg_sl ([.ref (a 0), .int (iN x1)])).length) Slot.unset).toArray = ls at hl ⊢
  have hl : lv_has ls 2 [(0, .ref (a 0)), (1, .int (iN x1))] := hl
  generalize hQQ : vx_MQ below (fun _ _ _ _ => False) (xT r) args s 1 6 (fun _ => False) = QQ
  refine lv_aload_n hx hb dX6_take_0 rfl (lv_at hl 0 rfl) ?_
  refine x_get (C := RX6) (T := TX6) (NF := 6) (v := .ref (a 25)) hx hb hts iX6 hown hK hP 0 (by decide) (cE_0 cI cA a (_)) rfl 3 (by decide) fl31 rfl dX6_take_1 ?_
  refine lv_iload_n hx hb dX6_take_4 rfl (lv_at hl 1 rfl) ?_
  obtain ⟨v1, hv1, hf⟩ := bd hf
  refine x_callP (va_runV (As := [.int (iN x1)]) (rest := []) ⟨hx, hb, hml, hown, hts⟩ (kX5_has_25 l dC dI cI cA a σ x1 v1 hv1 hR rx1) (cwV 1 hts gX6_take_X5_has rfl rfl rfl hX5_has_d ⟨Nat.le_trans (by decide) hrm.1, Nat.le_trans (by decide) hrm.2⟩) (pvC 25 (by decide) (cE_25 cI cA a (_)) rfl hP hK hN) rfl rfl hl.1 rfl (lv_room (Nat.le_of_ble_eq_true rfl)) dX6_take_5 ⟨Nat.zero_le _, Nat.zero_le _⟩) (fun rv1 => ?_)
  refine x_if_ne (tgt := 19) hx hb rv1 dX6_take_8 (by decide) (fun c2 => ?_) (fun c2 => ?_)
  · replace hf := (if_neg c2).symm.trans hf
    refine lv_aload_n hx hb dX6_take_19 rfl (lv_at hl 0 rfl) ?_
    refine x_get (C := RX6) (T := TX6) (NF := 6) (v := .ref (a 25)) hx hb hts iX6 hown hK hP 0 (by decide) (cE_0 cI cA a (_)) rfl 3 (by decide) fl31 rfl dX6_take_20 ?_
    refine lv_aload_n hx hb dX6_take_23 rfl (lv_at hl 0 rfl) ?_
    refine x_get (C := RX6) (T := TX6) (NF := 6) (v := .ref (a 21)) hx hb hts iX6 hown hK hP 0 (by decide) (cE_0 cI cA a (_)) rfl 1 (by decide) fl21 rfl dX6_take_24 ?_
    refine lv_iload_n hx hb dX6_take_27 rfl (lv_at hl 1 rfl) ?_
    cases hf
  · replace hf := (if_pos c2).symm.trans hf
    have hE : "java/lang/IndexOutOfBoundsException" = r := Option.some.inj hf
    subst hE
    rw [← hQQ]
    exact vx_throw0 (own := RX6) (cls := "java/lang/IndexOutOfBoundsException") (names := ["java/lang/RuntimeException", "java/lang/Exception"]) (ik := 70) (ic := 72) hx hb hst hown (by decide +kernel) (by decide +kernel) (hts (.classLink RX6 70 "java/lang/IndexOutOfBoundsException") (by decide +kernel)) (hts (.initialized "java/lang/IndexOutOfBoundsException") (by decide +kernel)) (vx_hat (L := (vx_at0 RX6 72 "java/lang/IndexOutOfBoundsException" ["java/lang/RuntimeException", "java/lang/Exception"])) (B := xwL) (fun w hw => hts w (List.mem_cons_of_mem _ (List.mem_append_right _ hw))) (by decide +kernel) (XW.use hW)) (by decide +kernel) hU hZ va_S.rf (hl.1.trans hml.symm) dX6_take_11 dX6_take_14 dX6_take_15 dX6_take_18 (fun x h9 => (hex x h9).elim) (Nat.lt_of_lt_of_le (by decide) hrm.1) (Nat.le_trans (by decide) hrm.2) hrc.1 hrc.2 hlocks (fun t _ h1 h2 => ⟨rfl, h1, h2⟩) (fun _ h9 => by cases h9) (by decide) (by decide)
