def fX7_findAll_0_L40 (ex1 : Mem → Int → Option (Int × Mem)) : Nat → Mem → Int → Option (Int × Mem)
  | 0, _, _ => none
  | n1 + 1, σ37, v36 => if v36 < (σ37 0 1) then if rng (6 * (σ37 0 8)) then if rng ((6 * (σ37 0 8)) + v36) then if (0 : Int) ≤ v36 ∧ (v36 : Int) < 6 then if (0 : Int) ≤ ((6 * (σ37 0 8)) + v36) ∧ (((6 * (σ37 0 8)) + v36) : Int) < 4320 then nx (mup σ37 5 ((6 * (σ37 0 8)) + v36) (σ37 10 v36)) fun σ42 => if rng (v36 + 1) then fX7_findAll_0_L40  ex1 n1 σ42 (v36 + 1) else none else none else none else none else none else ex1 σ37 v36
def fX7_findAll_0_L14 (ex0 : Mem → Int → Option (Int × Mem)) : Nat → Mem → Int → Option (Int × Mem)
  | 0, _, _ => none
  | n0 + 1, σ5, v4 => if v4 < 0 then ex0 σ5 v4 else if v4 = (σ5 0 1) then (fX7_blocksOf_0_10 σ5 0).bind fun v34 => if v34 = 0 then fX7_findAll_0_L40  (fun σ46 v45 => if rng ((σ46 0 8) + 1) then nx (mup σ46 0 8 ((σ46 0 8) + 1)) fun σ48 => if rng (v4 + (-1)) then fX7_findAll_0_L14  ex0 n0 σ48 (v4 + (-1)) else none else none) FU σ5 0 else if rng (v4 + (-1)) then fX7_findAll_0_L14  ex0 n0 σ5 (v4 + (-1)) else none else if (0 : Int) ≤ v4 ∧ (v4 : Int) < 6 then if (0 : Int) ≤ v4 ∧ (v4 : Int) < 12 then if (σ5 11 v4) = (σ5 3 v4) then if rng (v4 + (-1)) then fX7_findAll_0_L14  ex0 n0 σ5 (v4 + (-1)) else none else if (0 : Int) ≤ v4 ∧ (v4 : Int) < 6 then if rng ((σ5 11 v4) + 1) then (fX7_next_0 σ5 v4 ((σ5 11 v4) + 1)).bind fun v10 => if (0 : Int) ≤ v4 ∧ (v4 : Int) < 6 then nx (mup σ5 11 v4 v10) fun σ12 => if (0 : Int) ≤ v4 ∧ (v4 : Int) < 6 then if (0 : Int) ≤ v4 ∧ (v4 : Int) < 12 then if (σ12 11 v4) = (σ12 3 v4) then if (0 : Int) ≤ v4 ∧ (v4 : Int) < 6 then nx (mup σ12 10 v4 (-1)) fun σ26 => if rng (v4 + 1) then if (v4 + 1) < (σ26 0 1) then if (0 : Int) ≤ (v4 + 1) ∧ ((v4 + 1) : Int) < 6 then nx (mup σ26 11 (v4 + 1) (-1)) fun σ29 => fX7_findAll_0_L14  ex0 n0 σ29 (v4 + 1) else none else fX7_findAll_0_L14  ex0 n0 σ26 (v4 + 1) else none else none else if rng (6 * v4) then if (0 : Int) ≤ v4 ∧ (v4 : Int) < 6 then if rng ((6 * v4) + (σ12 11 v4)) then if (0 : Int) ≤ ((6 * v4) + (σ12 11 v4)) ∧ (((6 * v4) + (σ12 11 v4)) : Int) < 72 then if (0 : Int) ≤ v4 ∧ (v4 : Int) < 6 then nx (mup σ12 10 v4 (σ12 2 ((6 * v4) + (σ12 11 v4)))) fun σ20 => if rng (v4 + 1) then if (v4 + 1) < (σ20 0 1) then if (0 : Int) ≤ (v4 + 1) ∧ ((v4 + 1) : Int) < 6 then nx (mup σ20 11 (v4 + 1) (-1)) fun σ23 => fX7_findAll_0_L14  ex0 n0 σ23 (v4 + 1) else none else fX7_findAll_0_L14  ex0 n0 σ20 (v4 + 1) else none else none else none else none else none else none else none else none else none else none else none else none else none
def fX7_findAll_0 (σ : Mem) : Option (Int × Mem) := nx (mup σ 0 8 0) fun σ1 => if (0 : Int) ≤ 0 ∧ (0 : Int) < 6 then nx (mup σ1 11 0 (-1)) fun σ3 => fX7_findAll_0_L14  (fun σ54 v53 => some (0, σ54)) FU σ3 0 else none
set_option maxHeartbeats 4000000 in
set_option maxRecDepth 100000 in
theorem kX7_findAll_0 (l : Launch) (dC : Nat → ClassId) (dI : Nat → Nat → Nat) (cI : ClassId) (a : Nat → Nat) (hi : ∀ i j, i < 12 → j < 12 → a i = a j → i = j) (σ : Mem) (r : (Int × Mem)) (hf : fX7_findAll_0 σ  = some r) (hR : Rg σ) : Met l yX7_findAll wsX7_findAll ({ frames := 4, cells := 0, slots := 0, locals := 99 }) (va_Pc [.ref (a 0)] (preM dC dI cI a σ)) (qMv (dC, dI) (gw 12 a (mE cI a)) (gA 12 a) r) 0 0 (gA 12 a) := by
  refine Met.ofW (cc := cX7_findAll) (maxL := 3) (ret := none) (by decide) rfl ?_
  intro p e s m args below meth c s₁ B hml hv
  obtain ⟨hargs, hP, hK⟩ := hv
  have hx := B.exec
  have hb := B.bytes
  have hr := B.returns
  have hts := atoms_spec (ws := wsX7_findAll) B.pre
  have hown : s.vm.findClass RX7 = some m.cls := findClass_of_methodNamed B.named
  have hlocks := B.notSynchronized
  have hS : va_S (gA 12 a) s.heap s.heap [] := va_S.rf
  have iX7 : ∀ w ∈ wsX70, w ∈ wsX7_findAll := by decide +kernel
  have fl20 := hts (.fieldLink RX7 20 "MatchHallModel" "lists" "[I") (by decide +kernel)
  have fl23 := hts (.fieldLink RX7 23 "MatchHallModel" "longs" "[I") (by decide +kernel)
  have fl29 := hts (.fieldLink RX7 29 "MatchHallModel" "stable" "[I") (by decide +kernel)
  have fl44 := hts (.fieldLink RX7 44 "MatchHallModel" "tried" "[I") (by decide +kernel)
  have fl47 := hts (.fieldLink RX7 47 "MatchHallModel" "option" "[I") (by decide +kernel)
  have fl7 := hts (.fieldLink RX7 7 "MatchHallModel" "residents" "I") (by decide +kernel)
  have fl88 := hts (.fieldLink RX7 88 "MatchHallModel" "many" "I") (by decide +kernel)
  have hrm : 4 ≤ (headSpec wsX7_findAll ({ frames := 4, cells := 0, slots := 0, locals := 99 })).room.frames ∧ 99 ≤ (headSpec wsX7_findAll ({ frames := 4, cells := 0, slots := 0, locals := 99 })).room.locals := ⟨Nat.le_refl _, Nat.le_refl _⟩
  generalize (headSpec wsX7_findAll ({ frames := 4, cells := 0, slots := 0, locals := 99 })).room = RR at hrm ⊢
  have hl := lv_entry ([.ref (a 0)]) (n := 3) (Nat.le_of_ble_eq_true rfl)
  rw [show entryFrame m args 3 = entryFrame m ([.ref (a 0)] : List Value).toArray 3 from by rw [hargs], lg_entry_eq]
  generalize (lg_sl ([.ref (a 0)]) ++ List.replicate (3 - (lg_sl ([.ref (a 0)])).length) Slot.unset).toArray = ls at hl ⊢
  have hl : lv_has ls 3 [(0, .ref (a 0))] := hl
  generalize hQQ : MQ below (qMv (dC, dI) (gw 12 a (mE cI a)) (gA 12 a) r) args s 0 0 (gA 12 a) = QQ
  refine lv_aload_n hx hb dX7_findAll_0 rfl (lv_at hl 0 rfl) ?_
  refine lv_iconst (v := iN 0) hx hb dX7_findAll_1 rfl ?_
  obtain ⟨σ1, hσ1, hf⟩ := nxe hf
  refine x_put (C := RX7) (T := TX7) (NF := 17) (x := 0) (ty := .int) hx hb hts iX7 tyX7 tyX7_ok nmX7 hi hown hK hP hS 0 (by decide) (mE_0 cI a (_)) rfl 8 8 (by decide) fl88 rfl (by decide +kernel) rfl rfl (Nat.le_of_ble_eq_true rfl) rfl dX7_findAll_2 (fun H locs hP hS => ?_)
  rw [← hσ1] at hP
  have hRσ1 : Rg σ1 := by rw [hσ1]; exact Rg_up hR (by decide)
  refine lv_iconst (v := iN 0) hx hb dX7_findAll_5 rfl ?_
  refine lv_istore_n (lv' := [(1, .int (iN 0)), (0, .ref (a 0))]) hx hb dX7_findAll_6 rfl hl (by decide) rfl (fun ls hl => ?_)
  refine lv_aload_n hx hb dX7_findAll_7 rfl (lv_at hl 1 rfl) ?_
  refine x_get (C := RX7) (T := TX7) (NF := 17) (v := .ref (a 11)) hx hb hts iX7 hown hK hP 0 (by decide) (mE_0 cI a (_)) rfl 16 (by decide) fl47 rfl dX7_findAll_8 ?_
  refine lv_iconst (v := iN 0) hx hb dX7_findAll_11 rfl ?_
  refine lv_iconst (v := iN (-1)) hx hb dX7_findAll_12 rfl ?_
  obtain ⟨g2, hf⟩ := gd hf
  obtain ⟨σ3, hσ3, hf⟩ := nxe hf
  refine x_iast (x := (-1)) hx hb hi hK hP hS 11 0 (by decide) (mE_11 cI a) (by decide) rfl g2 dX7_findAll_13 (fun H locs hP hS => ?_)
  rw [← hσ3] at hP
  have hRσ3 : Rg σ3 := by rw [hσ3]; exact Rg_up hRσ1 (by decide)
  have L_fX7_findAll_0_L14 : ∀ (EX0 : Mem → Int → Option (Int × Mem)), (∀ (σ5 : Mem) (v4 : Int), Rg σ5 → rng v4 → EX0 σ5 v4 = some r → ∀ H locs ls, va_P (dC, dI) vwCl (gw 12 a (mE cI a) σ5) H → va_S (gA 12 a) s.heap H locs → lv_has ls 3 [(0, .ref (a 0)), (1, .int (iN v4))] → W p l e RR s m args below meth c H locs 0 0 QQ (F0 m 192 ls [])) → ∀ n0 : Nat, ∀ (σ5 : Mem) (v4 : Int), Rg σ5 → rng v4 → fX7_findAll_0_L14  EX0 n0 σ5 v4 = some r → ∀ H locs ls, va_P (dC, dI) vwCl (gw 12 a (mE cI a) σ5) H → va_S (gA 12 a) s.heap H locs → lv_has ls 3 [(0, .ref (a 0)), (1, .int (iN v4))] → W p l e RR s m args below meth c H locs 0 0 QQ (F0 m 14 ls []) := by
    intro EX0 hEX0 n0
    induction n0 with
    | zero => intro _ _ _ _ hf; cases hf
    | succ n0 ih0 =>
      intro σ5 v4 hRσ5 rv4 hf H locs ls hP hS hl
      rw [fX7_findAll_0_L14] at hf
      refine lv_iload_n hx hb dX7_findAll_14 rfl (lv_at hl 1 rfl) ?_
      refine x_if_lt (tgt := 192) hx hb rv4 dX7_findAll_15 (by decide) (fun c52 => ?_) (fun c52 => ?_)
      · replace hf := (if_pos c52).symm.trans hf
        exact hEX0 _ _ hRσ5 rv4 hf _ _ _ hP hS (lv_sub hl [0, 1] rfl)
      · replace hf := (if_neg c52).symm.trans hf
        refine lv_iload_n hx hb dX7_findAll_18 rfl (lv_at hl 1 rfl) ?_
        refine lv_aload_n hx hb dX7_findAll_19 rfl (lv_at hl 0 rfl) ?_
        refine x_get (C := RX7) (T := TX7) (NF := 17) (v := .int (iN (σ5 0 1))) hx hb hts iX7 hown hK hP 0 (by decide) (mE_0 cI a (_)) rfl 1 (by decide) fl7 rfl dX7_findAll_20 ?_
        refine x_icmp_ne (tgt := 90) hx hb rv4 (hRσ5 0 1) dX7_findAll_23 (by decide) (fun c51 => ?_) (fun c51 => ?_)
        · replace hf := (if_neg c51).symm.trans hf
          refine lv_aload_n hx hb dX7_findAll_90 rfl (lv_at hl 0 rfl) ?_
          refine x_get (C := RX7) (T := TX7) (NF := 17) (v := .ref (a 11)) hx hb hts iX7 hown hK hP 0 (by decide) (mE_0 cI a (_)) rfl 16 (by decide) fl47 rfl dX7_findAll_91 ?_
          refine lv_iload_n hx hb dX7_findAll_94 rfl (lv_at hl 1 rfl) ?_
          obtain ⟨g6, hf⟩ := gd hf
          refine x_iald hx hb hK hP 11 0 (by decide) (mE_11 cI a (_)) (by decide) rfl g6 dX7_findAll_95 ?_
          refine lv_aload_n hx hb dX7_findAll_96 rfl (lv_at hl 0 rfl) ?_
          refine x_get (C := RX7) (T := TX7) (NF := 17) (v := .ref (a 3)) hx hb hts iX7 hown hK hP 0 (by decide) (mE_0 cI a (_)) rfl 5 (by decide) fl23 rfl dX7_findAll_97 ?_
          refine lv_iload_n hx hb dX7_findAll_100 rfl (lv_at hl 1 rfl) ?_
          obtain ⟨g7, hf⟩ := gd hf
          refine x_iald hx hb hK hP 3 0 (by decide) (mE_3 cI a (_)) (by decide) rfl g7 dX7_findAll_101 ?_
          refine x_icmp_ne (tgt := 111) hx hb (hRσ5 11 v4) (hRσ5 3 v4) dX7_findAll_102 (by decide) (fun c33 => ?_) (fun c33 => ?_)
          · replace hf := (if_neg c33).symm.trans hf
            refine lv_aload_n hx hb dX7_findAll_111 rfl (lv_at hl 0 rfl) ?_
            refine x_get (C := RX7) (T := TX7) (NF := 17) (v := .ref (a 11)) hx hb hts iX7 hown hK hP 0 (by decide) (mE_0 cI a (_)) rfl 16 (by decide) fl47 rfl dX7_findAll_112 ?_
            refine lv_iload_n hx hb dX7_findAll_115 rfl (lv_at hl 1 rfl) ?_
            refine lv_aload_n hx hb dX7_findAll_116 rfl (lv_at hl 0 rfl) ?_
            refine lv_iload_n hx hb dX7_findAll_117 rfl (lv_at hl 1 rfl) ?_
            refine lv_aload_n hx hb dX7_findAll_118 rfl (lv_at hl 0 rfl) ?_
            refine x_get (C := RX7) (T := TX7) (NF := 17) (v := .ref (a 11)) hx hb hts iX7 hown hK hP 0 (by decide) (mE_0 cI a (_)) rfl 16 (by decide) fl47 rfl dX7_findAll_119 ?_
            refine lv_iload_n hx hb dX7_findAll_122 rfl (lv_at hl 1 rfl) ?_
            obtain ⟨g8, hf⟩ := gd hf
            refine x_iald hx hb hK hP 11 0 (by decide) (mE_11 cI a (_)) (by decide) rfl g8 dX7_findAll_123 ?_
            refine lv_iconst (v := iN 1) hx hb dX7_findAll_124 rfl ?_
            obtain ⟨g9, hf⟩ := gd hf
            refine x_iadd hx hb dX7_findAll_125 ?_
            obtain ⟨v10, hv10, hf⟩ := bd hf
            refine x_callP (va_runV (As := [.int (iN v4), .int (iN ((σ5 11 v4) + 1))]) (rest := [.int (iN v4), .ref (a 11)]) ⟨hx, hb, hml, hown, hts⟩ (kX7_next_0 l dC dI cI a σ5 v4 ((σ5 11 v4) + 1) v10 hv10 hRσ5 rv4 g9) (cwV 2 hts gX7_findAll_X7_next rfl rfl rfl hX7_next_d ⟨Nat.le_trans (by decide) hrm.1, Nat.le_trans (by decide) hrm.2⟩) (pvM 0 (by decide) (mE_0 cI a (_)) rfl hP hK) rfl rfl hl.1 rfl (lv_room (Nat.le_of_ble_eq_true rfl)) dX7_findAll_126 ⟨Nat.zero_le _, Nat.zero_le _⟩) (fun rv10 => ?_)
            obtain ⟨g11, hf⟩ := gd hf
            obtain ⟨σ12, hσ12, hf⟩ := nxe hf
            refine x_iast (x := v10) hx hb hi hK hP hS 11 0 (by decide) (mE_11 cI a) (by decide) rfl g11 dX7_findAll_129 (fun H locs hP hS => ?_)
            rw [← hσ12] at hP
            have hRσ12 : Rg σ12 := by rw [hσ12]; exact Rg_up hRσ5 rv10
            refine lv_aload_n hx hb dX7_findAll_130 rfl (lv_at hl 0 rfl) ?_
            refine x_get (C := RX7) (T := TX7) (NF := 17) (v := .ref (a 10)) hx hb hts iX7 hown hK hP 0 (by decide) (mE_0 cI a (_)) rfl 15 (by decide) fl44 rfl dX7_findAll_131 ?_
            refine lv_iload_n hx hb dX7_findAll_134 rfl (lv_at hl 1 rfl) ?_
            refine lv_aload_n hx hb dX7_findAll_135 rfl (lv_at hl 0 rfl) ?_
            refine x_get (C := RX7) (T := TX7) (NF := 17) (v := .ref (a 11)) hx hb hts iX7 hown hK hP 0 (by decide) (mE_0 cI a (_)) rfl 16 (by decide) fl47 rfl dX7_findAll_136 ?_
            refine lv_iload_n hx hb dX7_findAll_139 rfl (lv_at hl 1 rfl) ?_
            obtain ⟨g13, hf⟩ := gd hf
            refine x_iald hx hb hK hP 11 0 (by decide) (mE_11 cI a (_)) (by decide) rfl g13 dX7_findAll_140 ?_
            refine lv_aload_n hx hb dX7_findAll_141 rfl (lv_at hl 0 rfl) ?_
            refine x_get (C := RX7) (T := TX7) (NF := 17) (v := .ref (a 3)) hx hb hts iX7 hown hK hP 0 (by decide) (mE_0 cI a (_)) rfl 5 (by decide) fl23 rfl dX7_findAll_142 ?_
            refine lv_iload_n hx hb dX7_findAll_145 rfl (lv_at hl 1 rfl) ?_
            obtain ⟨g14, hf⟩ := gd hf
            refine x_iald hx hb hK hP 3 0 (by decide) (mE_3 cI a (_)) (by decide) rfl g14 dX7_findAll_146 ?_
            refine x_icmp_ne (tgt := 154) hx hb (hRσ12 11 v4) (hRσ12 3 v4) dX7_findAll_147 (by decide) (fun c31 => ?_) (fun c31 => ?_)
            · replace hf := (if_neg c31).symm.trans hf
              refine lv_aload_n hx hb dX7_findAll_154 rfl (lv_at hl 0 rfl) ?_
              refine x_get (C := RX7) (T := TX7) (NF := 17) (v := .ref (a 2)) hx hb hts iX7 hown hK hP 0 (by decide) (mE_0 cI a (_)) rfl 4 (by decide) fl20 rfl dX7_findAll_155 ?_
              refine lv_bipush (v := iN 6) hx hb dX7_findAll_158 (by decide) ?_
              refine lv_iload_n hx hb dX7_findAll_160 rfl (lv_at hl 1 rfl) ?_
              obtain ⟨g15, hf⟩ := gd hf
              refine x_imul hx hb dX7_findAll_161 ?_
              refine lv_aload_n hx hb dX7_findAll_162 rfl (lv_at hl 0 rfl) ?_
              refine x_get (C := RX7) (T := TX7) (NF := 17) (v := .ref (a 11)) hx hb hts iX7 hown hK hP 0 (by decide) (mE_0 cI a (_)) rfl 16 (by decide) fl47 rfl dX7_findAll_163 ?_
              refine lv_iload_n hx hb dX7_findAll_166 rfl (lv_at hl 1 rfl) ?_
              obtain ⟨g16, hf⟩ := gd hf
              refine x_iald hx hb hK hP 11 0 (by decide) (mE_11 cI a (_)) (by decide) rfl g16 dX7_findAll_167 ?_
              obtain ⟨g17, hf⟩ := gd hf
              refine x_iadd hx hb dX7_findAll_168 ?_
              obtain ⟨g18, hf⟩ := gd hf
              refine x_iald hx hb hK hP 2 0 (by decide) (mE_2 cI a (_)) (by decide) rfl g18 dX7_findAll_169 ?_
              obtain ⟨g19, hf⟩ := gd hf
              obtain ⟨σ20, hσ20, hf⟩ := nxe hf
              refine x_iast (x := (σ12 2 ((6 * v4) + (σ12 11 v4)))) hx hb hi hK hP hS 10 0 (by decide) (mE_10 cI a) (by decide) rfl g19 dX7_findAll_170 (fun H locs hP hS => ?_)
              rw [← hσ20] at hP
              have hRσ20 : Rg σ20 := by rw [hσ20]; exact Rg_up hRσ12 (hRσ12 2 ((6 * v4) + (σ12 11 v4)))
              obtain ⟨g21, hf⟩ := gd hf
              refine lv_iinc (v := iN (v4 + 1)) (lv' := [(1, .int (iN (v4 + 1))), (0, .ref (a 0))]) hx hb dX7_findAll_171 hl (k := 1) rfl (iN_add v4 1) (by decide) rfl (fun ls hl => ?_)
              refine lv_iload_n hx hb dX7_findAll_174 rfl (lv_at hl 0 rfl) ?_
              refine lv_aload_n hx hb dX7_findAll_175 rfl (lv_at hl 1 rfl) ?_
              refine x_get (C := RX7) (T := TX7) (NF := 17) (v := .int (iN (σ20 0 1))) hx hb hts iX7 hown hK hP 0 (by decide) (mE_0 cI a (_)) rfl 1 (by decide) fl7 rfl dX7_findAll_176 ?_
              refine x_icmp_ge (tgt := 14) hx hb g21 (hRσ20 0 1) dX7_findAll_179 (by decide) (fun c24 => ?_) (fun c24 => ?_)
              · replace hf := (if_neg c24).symm.trans hf
                exact ih0 _ _ hRσ20 g21 hf _ _ _ hP hS (lv_sub hl [1, 0] rfl)
              · replace hf := (if_pos c24).symm.trans hf
                refine lv_aload_n hx hb dX7_findAll_182 rfl (lv_at hl 1 rfl) ?_
                refine x_get (C := RX7) (T := TX7) (NF := 17) (v := .ref (a 11)) hx hb hts iX7 hown hK hP 0 (by decide) (mE_0 cI a (_)) rfl 16 (by decide) fl47 rfl dX7_findAll_183 ?_
                refine lv_iload_n hx hb dX7_findAll_186 rfl (lv_at hl 0 rfl) ?_
                refine lv_iconst (v := iN (-1)) hx hb dX7_findAll_187 rfl ?_
                obtain ⟨g22, hf⟩ := gd hf
                obtain ⟨σ23, hσ23, hf⟩ := nxe hf
                refine x_iast (x := (-1)) hx hb hi hK hP hS 11 0 (by decide) (mE_11 cI a) (by decide) rfl g22 dX7_findAll_188 (fun H locs hP hS => ?_)
                rw [← hσ23] at hP
                have hRσ23 : Rg σ23 := by rw [hσ23]; exact Rg_up hRσ20 (by decide)
                refine lv_goto (tgt := 14) hx hb dX7_findAll_189 (by decide) ?_
                exact ih0 _ _ hRσ23 g21 hf _ _ _ hP hS (lv_sub hl [1, 0] rfl)
            · replace hf := (if_pos c31).symm.trans hf
              refine lv_iconst (v := iN (-1)) hx hb dX7_findAll_150 rfl ?_
              refine lv_goto (tgt := 170) hx hb dX7_findAll_151 (by decide) ?_
              obtain ⟨g25, hf⟩ := gd hf
              obtain ⟨σ26, hσ26, hf⟩ := nxe hf
              refine x_iast (x := (-1)) hx hb hi hK hP hS 10 0 (by decide) (mE_10 cI a) (by decide) rfl g25 dX7_findAll_170 (fun H locs hP hS => ?_)
              rw [← hσ26] at hP
              have hRσ26 : Rg σ26 := by rw [hσ26]; exact Rg_up hRσ12 (by decide)
              obtain ⟨g27, hf⟩ := gd hf
              refine lv_iinc (v := iN (v4 + 1)) (lv' := [(1, .int (iN (v4 + 1))), (0, .ref (a 0))]) hx hb dX7_findAll_171 hl (k := 1) rfl (iN_add v4 1) (by decide) rfl (fun ls hl => ?_)
              refine lv_iload_n hx hb dX7_findAll_174 rfl (lv_at hl 0 rfl) ?_
              refine lv_aload_n hx hb dX7_findAll_175 rfl (lv_at hl 1 rfl) ?_
              refine x_get (C := RX7) (T := TX7) (NF := 17) (v := .int (iN (σ26 0 1))) hx hb hts iX7 hown hK hP 0 (by decide) (mE_0 cI a (_)) rfl 1 (by decide) fl7 rfl dX7_findAll_176 ?_
              refine x_icmp_ge (tgt := 14) hx hb g27 (hRσ26 0 1) dX7_findAll_179 (by decide) (fun c30 => ?_) (fun c30 => ?_)
              · replace hf := (if_neg c30).symm.trans hf
                exact ih0 _ _ hRσ26 g27 hf _ _ _ hP hS (lv_sub hl [1, 0] rfl)
              · replace hf := (if_pos c30).symm.trans hf
                refine lv_aload_n hx hb dX7_findAll_182 rfl (lv_at hl 1 rfl) ?_
                refine x_get (C := RX7) (T := TX7) (NF := 17) (v := .ref (a 11)) hx hb hts iX7 hown hK hP 0 (by decide) (mE_0 cI a (_)) rfl 16 (by decide) fl47 rfl dX7_findAll_183 ?_
                refine lv_iload_n hx hb dX7_findAll_186 rfl (lv_at hl 0 rfl) ?_
                refine lv_iconst (v := iN (-1)) hx hb dX7_findAll_187 rfl ?_
                obtain ⟨g28, hf⟩ := gd hf
                obtain ⟨σ29, hσ29, hf⟩ := nxe hf
                refine x_iast (x := (-1)) hx hb hi hK hP hS 11 0 (by decide) (mE_11 cI a) (by decide) rfl g28 dX7_findAll_188 (fun H locs hP hS => ?_)
                rw [← hσ29] at hP
                have hRσ29 : Rg σ29 := by rw [hσ29]; exact Rg_up hRσ26 (by decide)
                refine lv_goto (tgt := 14) hx hb dX7_findAll_189 (by decide) ?_
                exact ih0 _ _ hRσ29 g27 hf _ _ _ hP hS (lv_sub hl [1, 0] rfl)
          · replace hf := (if_pos c33).symm.trans hf
            obtain ⟨g32, hf⟩ := gd hf
            refine lv_iinc (v := iN (v4 + (-1))) (lv' := [(1, .int (iN (v4 + (-1)))), (0, .ref (a 0))]) hx hb dX7_findAll_105 hl (k := 1) rfl (iN_add v4 (-1)) (by decide) rfl (fun ls hl => ?_)
            refine lv_goto (tgt := 14) hx hb dX7_findAll_108 (by decide) ?_
            exact ih0 _ _ hRσ5 g32 hf _ _ _ hP hS (lv_sub hl [1, 0] rfl)
        · replace hf := (if_pos c51).symm.trans hf
          refine lv_aload_n hx hb dX7_findAll_26 rfl (lv_at hl 0 rfl) ?_
          refine lv_aload_n hx hb dX7_findAll_27 rfl (lv_at hl 0 rfl) ?_
          refine x_get (C := RX7) (T := TX7) (NF := 17) (v := .ref (a 10)) hx hb hts iX7 hown hK hP 0 (by decide) (mE_0 cI a (_)) rfl 15 (by decide) fl44 rfl dX7_findAll_28 ?_
          refine lv_iconst (v := iN 0) hx hb dX7_findAll_31 rfl ?_
          obtain ⟨v34, hv34, hf⟩ := bd hf
          refine x_callP (va_runV (As := [.ref (a 10), .int (iN 0)]) (rest := []) ⟨hx, hb, hml, hown, hts⟩ (kX7_blocksOf_0_10 l dC dI cI a σ5 0 v34 hv34 hRσ5 (by decide)) (cwV 2 hts gX7_findAll_X7_blocksOf rfl rfl rfl hX7_blocksOf_d ⟨Nat.le_trans (by decide) hrm.1, Nat.le_trans (by decide) hrm.2⟩) (pvM 0 (by decide) (mE_0 cI a (_)) rfl hP hK) rfl rfl hl.1 rfl (lv_room (Nat.le_of_ble_eq_true rfl)) dX7_findAll_32 ⟨Nat.zero_le _, Nat.zero_le _⟩) (fun rv34 => ?_)
          refine x_if_ne (tgt := 84) hx hb rv34 dX7_findAll_35 (by decide) (fun c50 => ?_) (fun c50 => ?_)
          · replace hf := (if_neg c50).symm.trans hf
            obtain ⟨g35, hf⟩ := gd hf
            refine lv_iinc (v := iN (v4 + (-1))) (lv' := [(1, .int (iN (v4 + (-1)))), (0, .ref (a 0))]) hx hb dX7_findAll_84 hl (k := 1) rfl (iN_add v4 (-1)) (by decide) rfl (fun ls hl => ?_)
            refine lv_goto (tgt := 14) hx hb dX7_findAll_87 (by decide) ?_
            exact ih0 _ _ hRσ5 g35 hf _ _ _ hP hS (lv_sub hl [1, 0] rfl)
          · replace hf := (if_pos c50).symm.trans hf
            refine lv_iconst (v := iN 0) hx hb dX7_findAll_38 rfl ?_
            refine lv_istore_n (lv' := [(2, .int (iN 0)), (0, .ref (a 0)), (1, .int (iN v4))]) hx hb dX7_findAll_39 rfl hl (by decide) rfl (fun ls hl => ?_)
            have L_fX7_findAll_0_L40 : ∀ (EX1 : Mem → Int → Option (Int × Mem)), (∀ (σ37 : Mem) (v36 : Int), Rg σ37 → rng v36 → EX1 σ37 v36 = some r → ∀ H locs ls, va_P (dC, dI) vwCl (gw 12 a (mE cI a) σ37) H → va_S (gA 12 a) s.heap H locs → lv_has ls 3 [(0, .ref (a 0)), (1, .int (iN v4)), (2, .int (iN v36))] → W p l e RR s m args below meth c H locs 0 0 QQ (F0 m 74 ls [])) → ∀ n1 : Nat, ∀ (σ37 : Mem) (v36 : Int), Rg σ37 → rng v36 → fX7_findAll_0_L40  EX1 n1 σ37 v36 = some r → ∀ H locs ls, va_P (dC, dI) vwCl (gw 12 a (mE cI a) σ37) H → va_S (gA 12 a) s.heap H locs → lv_has ls 3 [(0, .ref (a 0)), (1, .int (iN v4)), (2, .int (iN v36))] → W p l e RR s m args below meth c H locs 0 0 QQ (F0 m 40 ls []) := by
              intro EX1 hEX1 n1
              induction n1 with
              | zero => intro _ _ _ _ hf; cases hf
              | succ n1 ih1 =>
                intro σ37 v36 hRσ37 rv36 hf H locs ls hP hS hl
                rw [fX7_findAll_0_L40] at hf
                refine lv_iload_n hx hb dX7_findAll_40 rfl (lv_at hl 2 rfl) ?_
                refine lv_aload_n hx hb dX7_findAll_41 rfl (lv_at hl 0 rfl) ?_
                refine x_get (C := RX7) (T := TX7) (NF := 17) (v := .int (iN (σ37 0 1))) hx hb hts iX7 hown hK hP 0 (by decide) (mE_0 cI a (_)) rfl 1 (by decide) fl7 rfl dX7_findAll_42 ?_
                refine x_icmp_ge (tgt := 74) hx hb rv36 (hRσ37 0 1) dX7_findAll_45 (by decide) (fun c44 => ?_) (fun c44 => ?_)
                · replace hf := (if_neg c44).symm.trans hf
                  exact hEX1 _ _ hRσ37 rv36 hf _ _ _ hP hS (lv_sub hl [0, 1, 2] rfl)
                · replace hf := (if_pos c44).symm.trans hf
                  refine lv_aload_n hx hb dX7_findAll_48 rfl (lv_at hl 0 rfl) ?_
                  refine x_get (C := RX7) (T := TX7) (NF := 17) (v := .ref (a 5)) hx hb hts iX7 hown hK hP 0 (by decide) (mE_0 cI a (_)) rfl 9 (by decide) fl29 rfl dX7_findAll_49 ?_
                  refine lv_bipush (v := iN 6) hx hb dX7_findAll_52 (by decide) ?_
                  refine lv_aload_n hx hb dX7_findAll_54 rfl (lv_at hl 0 rfl) ?_
                  refine x_get (C := RX7) (T := TX7) (NF := 17) (v := .int (iN (σ37 0 8))) hx hb hts iX7 hown hK hP 0 (by decide) (mE_0 cI a (_)) rfl 8 (by decide) fl88 rfl dX7_findAll_55 ?_
                  obtain ⟨g38, hf⟩ := gd hf
                  refine x_imul hx hb dX7_findAll_58 ?_
                  refine lv_iload_n hx hb dX7_findAll_59 rfl (lv_at hl 2 rfl) ?_
                  obtain ⟨g39, hf⟩ := gd hf
                  refine x_iadd hx hb dX7_findAll_60 ?_
                  refine lv_aload_n hx hb dX7_findAll_61 rfl (lv_at hl 0 rfl) ?_
                  refine x_get (C := RX7) (T := TX7) (NF := 17) (v := .ref (a 10)) hx hb hts iX7 hown hK hP 0 (by decide) (mE_0 cI a (_)) rfl 15 (by decide) fl44 rfl dX7_findAll_62 ?_
                  refine lv_iload_n hx hb dX7_findAll_65 rfl (lv_at hl 2 rfl) ?_
                  obtain ⟨g40, hf⟩ := gd hf
                  refine x_iald hx hb hK hP 10 0 (by decide) (mE_10 cI a (_)) (by decide) rfl g40 dX7_findAll_66 ?_
                  obtain ⟨g41, hf⟩ := gd hf
                  obtain ⟨σ42, hσ42, hf⟩ := nxe hf
                  refine x_iast (x := (σ37 10 v36)) hx hb hi hK hP hS 5 0 (by decide) (mE_5 cI a) (by decide) rfl g41 dX7_findAll_67 (fun H locs hP hS => ?_)
                  rw [← hσ42] at hP
                  have hRσ42 : Rg σ42 := by rw [hσ42]; exact Rg_up hRσ37 (hRσ37 10 v36)
                  obtain ⟨g43, hf⟩ := gd hf
                  refine lv_iinc (v := iN (v36 + 1)) (lv' := [(2, .int (iN (v36 + 1))), (0, .ref (a 0)), (1, .int (iN v4))]) hx hb dX7_findAll_68 hl (k := 2) rfl (iN_add v36 1) (by decide) rfl (fun ls hl => ?_)
                  refine lv_goto (tgt := 40) hx hb dX7_findAll_71 (by decide) ?_
                  exact ih1 _ _ hRσ42 g43 hf _ _ _ hP hS (lv_sub hl [1, 2, 0] rfl)
            refine L_fX7_findAll_0_L40 _ (fun σ46 v45 hRσ46 rv45 hf H locs ls hP hS hl => ?_) _ _ _ hRσ5 (by decide) hf _ _ _ hP hS (lv_sub hl [1, 2, 0] rfl)
            refine lv_aload_n hx hb dX7_findAll_74 rfl (lv_at hl 0 rfl) ?_
            refine lv_dup hx hb dX7_findAll_75 rfl ?_
            refine x_get (C := RX7) (T := TX7) (NF := 17) (v := .int (iN (σ46 0 8))) hx hb hts iX7 hown hK hP 0 (by decide) (mE_0 cI a (_)) rfl 8 (by decide) fl88 rfl dX7_findAll_76 ?_
            refine lv_iconst (v := iN 1) hx hb dX7_findAll_79 rfl ?_
            obtain ⟨g47, hf⟩ := gd hf
            refine x_iadd hx hb dX7_findAll_80 ?_
            obtain ⟨σ48, hσ48, hf⟩ := nxe hf
            refine x_put (C := RX7) (T := TX7) (NF := 17) (x := ((σ46 0 8) + 1)) (ty := .int) hx hb hts iX7 tyX7 tyX7_ok nmX7 hi hown hK hP hS 0 (by decide) (mE_0 cI a (_)) rfl 8 8 (by decide) fl88 rfl (by decide +kernel) rfl rfl (Nat.le_of_ble_eq_true rfl) rfl dX7_findAll_81 (fun H locs hP hS => ?_)
            rw [← hσ48] at hP
            have hRσ48 : Rg σ48 := by rw [hσ48]; exact Rg_up hRσ46 g47
            obtain ⟨g49, hf⟩ := gd hf
            refine lv_iinc (v := iN (v4 + (-1))) (lv' := [(1, .int (iN (v4 + (-1)))), (0, .ref (a 0)), (2, .int (iN v45))]) hx hb dX7_findAll_84 hl (k := 1) rfl (iN_add v4 (-1)) (by decide) rfl (fun ls hl => ?_)
            refine lv_goto (tgt := 14) hx hb dX7_findAll_87 (by decide) ?_
            exact ih0 _ _ hRσ48 g49 hf _ _ _ hP hS (lv_sub hl [1, 0] rfl)
  refine L_fX7_findAll_0_L14 _ (fun σ54 v53 hRσ54 rv53 hf H locs ls hP hS hl => ?_) _ _ _ hRσ3 (by decide) hf _ _ _ hP hS (lv_sub hl [1, 0] rfl)
  rw [← hQQ]
  exact x_vretM hx hb hr (Option.some.inj hf) hRσ54 hP hS hlocks dX7_findAll_192
def fX7_isStep_0_L10 (σ : Mem) (x1 : Int) (x2 : Int) (ex0 : Int → Int → Option Int) : Nat → Int → Int → Option Int
  | 0, _, _ => none
  | n0 + 1, v2, v3 => if v3 < (σ 0 8) then if v2 = 0 then ex0 v2 v3 else (fX7_isBehind_0 σ x1 v3).bind fun v4 => if v4 = 0 then if rng (v3 + 1) then fX7_isStep_0_L10 σ x1 x2 ex0 n0 1 (v3 + 1) else none else (fX7_isBehind_0 σ v3 x2).bind fun v6 => if v6 = 0 then if rng (v3 + 1) then fX7_isStep_0_L10 σ x1 x2 ex0 n0 1 (v3 + 1) else none else if rng (v3 + 1) then fX7_isStep_0_L10 σ x1 x2 ex0 n0 0 (v3 + 1) else none else ex0 v2 v3
def fX7_isStep_0 (σ : Mem) (x1 : Int) (x2 : Int) : Option Int := (fX7_isBehind_0 σ x1 x2).bind fun v1 => fX7_isStep_0_L10 σ x1 x2 (fun v13 v14 => if v13 = 0 ∨ v13 = 1 then some v13 else none) FU v1 0
set_option maxHeartbeats 4000000 in
set_option maxRecDepth 100000 in
theorem kX7_isStep_0 (l : Launch) (dC : Nat → ClassId) (dI : Nat → Nat → Nat) (cI : ClassId) (a : Nat → Nat) (σ : Mem) (x1 : Int) (x2 : Int) (r : Int) (hf : fX7_isStep_0 σ x1 x2 = some r) (hR : Rg σ) (rx1 : rng x1) (rx2 : rng x2) : Met l yX7_isStep wsX7_isStep ({ frames := 2, cells := 0, slots := 0, locals := 53 }) (va_Pc [.ref (a 0), .int (iN x1), .int (iN x2)] (preM dC dI cI a σ)) (qP r) 0 0 (fun _ => False) := by
  refine Met.ofW (cc := cX7_isStep) (maxL := 5) (ret := (some .boolean)) (by decide) rfl ?_
  intro p e s m args below meth c s₁ B hml hv
  obtain ⟨hargs, hP, hK⟩ := hv
  have hx := B.exec
  have hb := B.bytes
  have hr := B.returns
  have hts := atoms_spec (ws := wsX7_isStep) B.pre
  have hown : s.vm.findClass RX7 = some m.cls := findClass_of_methodNamed B.named
  have hlocks := B.notSynchronized
  have iX7 : ∀ w ∈ wsX70, w ∈ wsX7_isStep := by decide +kernel
  have fl88 := hts (.fieldLink RX7 88 "MatchHallModel" "many" "I") (by decide +kernel)
  have hrm : 2 ≤ (headSpec wsX7_isStep ({ frames := 2, cells := 0, slots := 0, locals := 53 })).room.frames ∧ 53 ≤ (headSpec wsX7_isStep ({ frames := 2, cells := 0, slots := 0, locals := 53 })).room.locals := ⟨Nat.le_refl _, Nat.le_refl _⟩
  generalize (headSpec wsX7_isStep ({ frames := 2, cells := 0, slots := 0, locals := 53 })).room = RR at hrm ⊢
  have hl := lv_entry ([.ref (a 0), .int (iN x1), .int (iN x2)]) (n := 5) (Nat.le_of_ble_eq_true rfl)
  rw [show entryFrame m args 5 = entryFrame m ([.ref (a 0), .int (iN x1), .int (iN x2)] : List Value).toArray 5 from by rw [hargs], lg_entry_eq]
  generalize (lg_sl ([.ref (a 0), .int (iN x1), .int (iN x2)]) ++ List.replicate (5 - (lg_sl ([.ref (a 0), .int (iN x1), .int (iN x2)])).length) Slot.unset).toArray = ls at hl ⊢
  have hl : lv_has ls 5 [(0, .ref (a 0)), (1, .int (iN x1)), (2, .int (iN x2))] := hl
  generalize hQQ : MQ below (qP r) args s 0 0 (fun _ => False) = QQ
  refine lv_aload_n hx hb dX7_isStep_0 rfl (lv_at hl 0 rfl) ?_
  refine lv_iload_n hx hb dX7_isStep_1 rfl (lv_at hl 1 rfl) ?_
  refine lv_iload_n hx hb dX7_isStep_2 rfl (lv_at hl 2 rfl) ?_
  obtain ⟨v1, hv1, hf⟩ := bd hf
  refine x_callP (va_runV (As := [.int (iN x1), .int (iN x2)]) (rest := []) ⟨hx, hb, hml, hown, hts⟩ (kX7_isBehind_0 l dC dI cI a σ x1 x2 v1 hv1 hR rx1 rx2) (cwV 2 hts gX7_isStep_X7_isBehind rfl rfl rfl hX7_isBehind_d ⟨Nat.le_trans (by decide) hrm.1, Nat.le_trans (by decide) hrm.2⟩) (pvM 0 (by decide) (mE_0 cI a (_)) rfl hP hK) rfl rfl hl.1 rfl (lv_room (Nat.le_of_ble_eq_true rfl)) dX7_isStep_3 ⟨Nat.zero_le _, Nat.zero_le _⟩) (fun rv1 => ?_)
  refine lv_istore_n (lv' := [(3, .int (iN v1)), (0, .ref (a 0)), (1, .int (iN x1)), (2, .int (iN x2))]) hx hb dX7_isStep_6 rfl hl (by decide) rfl (fun ls hl => ?_)
  refine lv_iconst (v := iN 0) hx hb dX7_isStep_7 rfl ?_
  refine lv_istore (lv' := [(4, .int (iN 0)), (3, .int (iN v1)), (0, .ref (a 0)), (1, .int (iN x1)), (2, .int (iN x2))]) hx hb dX7_isStep_8 hl (by decide) rfl (fun ls hl => ?_)
  have L_fX7_isStep_0_L10 : ∀ (EX0 : Int → Int → Option Int), (∀ (v2 : Int) (v3 : Int), rng v2 → rng v3 → EX0 v2 v3 = some r → ∀ ls, lv_has ls 5 [(0, .ref (a 0)), (1, .int (iN x1)), (2, .int (iN x2)), (3, .int (iN v2)), (4, .int (iN v3))] → W p l e RR s m args below meth c s.heap [] 0 0 QQ (F0 m 55 ls [])) → ∀ n0 : Nat, ∀ (v2 : Int) (v3 : Int), rng v2 → rng v3 → fX7_isStep_0_L10 σ x1 x2 EX0 n0 v2 v3 = some r → ∀ ls, lv_has ls 5 [(0, .ref (a 0)), (1, .int (iN x1)), (2, .int (iN x2)), (3, .int (iN v2)), (4, .int (iN v3))] → W p l e RR s m args below meth c s.heap [] 0 0 QQ (F0 m 10 ls []) := by
    intro EX0 hEX0 n0
    induction n0 with
    | zero => intro _ _ _ _ hf; cases hf
    | succ n0 ih0 =>
      intro v2 v3 rv2 rv3 hf ls hl
      rw [fX7_isStep_0_L10] at hf
      refine lv_iload hx hb dX7_isStep_10 (lv_at hl 4 rfl) ?_
      refine lv_aload_n hx hb dX7_isStep_12 rfl (lv_at hl 0 rfl) ?_
      refine x_get (C := RX7) (T := TX7) (NF := 17) (v := .int (iN (σ 0 8))) hx hb hts iX7 hown hK hP 0 (by decide) (mE_0 cI a (_)) rfl 8 (by decide) fl88 rfl dX7_isStep_13 ?_
      refine x_icmp_ge (tgt := 55) hx hb rv3 (hR 0 8) dX7_isStep_16 (by decide) (fun c12 => ?_) (fun c12 => ?_)
      · replace hf := (if_neg c12).symm.trans hf
        exact hEX0 _ _ rv2 rv3 hf _ (lv_sub hl [0, 1, 2, 3, 4] rfl)
      · replace hf := (if_pos c12).symm.trans hf
        refine lv_iload_n hx hb dX7_isStep_19 rfl (lv_at hl 3 rfl) ?_
        refine x_if_eq (tgt := 55) hx hb rv2 dX7_isStep_20 (by decide) (fun c11 => ?_) (fun c11 => ?_)
        · replace hf := (if_pos c11).symm.trans hf
          exact hEX0 _ _ rv2 rv3 hf _ (lv_sub hl [0, 1, 2, 3, 4] rfl)
        · replace hf := (if_neg c11).symm.trans hf
          refine lv_aload_n hx hb dX7_isStep_23 rfl (lv_at hl 0 rfl) ?_
          refine lv_iload_n hx hb dX7_isStep_24 rfl (lv_at hl 1 rfl) ?_
          refine lv_iload hx hb dX7_isStep_25 (lv_at hl 4 rfl) ?_
          obtain ⟨v4, hv4, hf⟩ := bd hf
          refine x_callP (va_runV (As := [.int (iN x1), .int (iN v3)]) (rest := []) ⟨hx, hb, hml, hown, hts⟩ (kX7_isBehind_0 l dC dI cI a σ x1 v3 v4 hv4 hR rx1 rv3) (cwV 2 hts gX7_isStep_X7_isBehind rfl rfl rfl hX7_isBehind_d ⟨Nat.le_trans (by decide) hrm.1, Nat.le_trans (by decide) hrm.2⟩) (pvM 0 (by decide) (mE_0 cI a (_)) rfl hP hK) rfl rfl hl.1 rfl (lv_room (Nat.le_of_ble_eq_true rfl)) dX7_isStep_27 ⟨Nat.zero_le _, Nat.zero_le _⟩) (fun rv4 => ?_)
          refine x_if_eq (tgt := 43) hx hb rv4 dX7_isStep_30 (by decide) (fun c10 => ?_) (fun c10 => ?_)
          · replace hf := (if_pos c10).symm.trans hf
            refine lv_iconst (v := iN 1) hx hb dX7_isStep_43 rfl ?_
            refine lv_goto (tgt := 48) hx hb dX7_isStep_44 (by decide) ?_
            refine lv_istore_n (lv' := [(3, .int (iN 1)), (0, .ref (a 0)), (1, .int (iN x1)), (2, .int (iN x2)), (4, .int (iN v3))]) hx hb dX7_isStep_48 rfl hl (by decide) rfl (fun ls hl => ?_)
            obtain ⟨g5, hf⟩ := gd hf
            refine lv_iinc (v := iN (v3 + 1)) (lv' := [(4, .int (iN (v3 + 1))), (3, .int (iN 1)), (0, .ref (a 0)), (1, .int (iN x1)), (2, .int (iN x2))]) hx hb dX7_isStep_49 hl (k := 4) rfl (iN_add v3 1) (by decide) rfl (fun ls hl => ?_)
            refine lv_goto (tgt := 10) hx hb dX7_isStep_52 (by decide) ?_
            exact ih0 _ _ (by decide) g5 hf _ (lv_sub hl [2, 3, 4, 1, 0] rfl)
          · replace hf := (if_neg c10).symm.trans hf
            refine lv_aload_n hx hb dX7_isStep_33 rfl (lv_at hl 0 rfl) ?_
            refine lv_iload hx hb dX7_isStep_34 (lv_at hl 4 rfl) ?_
            refine lv_iload_n hx hb dX7_isStep_36 rfl (lv_at hl 2 rfl) ?_
            obtain ⟨v6, hv6, hf⟩ := bd hf
            refine x_callP (va_runV (As := [.int (iN v3), .int (iN x2)]) (rest := []) ⟨hx, hb, hml, hown, hts⟩ (kX7_isBehind_0 l dC dI cI a σ v3 x2 v6 hv6 hR rv3 rx2) (cwV 2 hts gX7_isStep_X7_isBehind rfl rfl rfl hX7_isBehind_d ⟨Nat.le_trans (by decide) hrm.1, Nat.le_trans (by decide) hrm.2⟩) (pvM 0 (by decide) (mE_0 cI a (_)) rfl hP hK) rfl rfl hl.1 rfl (lv_room (Nat.le_of_ble_eq_true rfl)) dX7_isStep_37 ⟨Nat.zero_le _, Nat.zero_le _⟩) (fun rv6 => ?_)
            refine x_if_ne (tgt := 47) hx hb rv6 dX7_isStep_40 (by decide) (fun c9 => ?_) (fun c9 => ?_)
            · replace hf := (if_neg c9).symm.trans hf
              refine lv_iconst (v := iN 0) hx hb dX7_isStep_47 rfl ?_
              refine lv_istore_n (lv' := [(3, .int (iN 0)), (0, .ref (a 0)), (1, .int (iN x1)), (2, .int (iN x2)), (4, .int (iN v3))]) hx hb dX7_isStep_48 rfl hl (by decide) rfl (fun ls hl => ?_)
              obtain ⟨g7, hf⟩ := gd hf
              refine lv_iinc (v := iN (v3 + 1)) (lv' := [(4, .int (iN (v3 + 1))), (3, .int (iN 0)), (0, .ref (a 0)), (1, .int (iN x1)), (2, .int (iN x2))]) hx hb dX7_isStep_49 hl (k := 4) rfl (iN_add v3 1) (by decide) rfl (fun ls hl => ?_)
              refine lv_goto (tgt := 10) hx hb dX7_isStep_52 (by decide) ?_
              exact ih0 _ _ (by decide) g7 hf _ (lv_sub hl [2, 3, 4, 1, 0] rfl)
            · replace hf := (if_pos c9).symm.trans hf
              refine lv_iconst (v := iN 1) hx hb dX7_isStep_43 rfl ?_
              refine lv_goto (tgt := 48) hx hb dX7_isStep_44 (by decide) ?_
              refine lv_istore_n (lv' := [(3, .int (iN 1)), (0, .ref (a 0)), (1, .int (iN x1)), (2, .int (iN x2)), (4, .int (iN v3))]) hx hb dX7_isStep_48 rfl hl (by decide) rfl (fun ls hl => ?_)
              obtain ⟨g8, hf⟩ := gd hf
              refine lv_iinc (v := iN (v3 + 1)) (lv' := [(4, .int (iN (v3 + 1))), (3, .int (iN 1)), (0, .ref (a 0)), (1, .int (iN x1)), (2, .int (iN x2))]) hx hb dX7_isStep_49 hl (k := 4) rfl (iN_add v3 1) (by decide) rfl (fun ls hl => ?_)
              refine lv_goto (tgt := 10) hx hb dX7_isStep_52 (by decide) ?_
              exact ih0 _ _ (by decide) g8 hf _ (lv_sub hl [2, 3, 4, 1, 0] rfl)
  refine L_fX7_isStep_0_L10 _ (fun v13 v14 rv13 rv14 hf ls hl => ?_) _ _ _ rv1 (by decide) hf _ (lv_sub hl [2, 3, 4, 1, 0] rfl)
  refine lv_iload_n hx hb dX7_isStep_55 rfl (lv_at hl 3 rfl) ?_
  obtain ⟨g15, hf⟩ := gd hf
  rw [← hQQ]
  exact x_zret hx hb hr (znar g15) (Option.some.inj hf) rv13 hlocks dX7_isStep_56
def fX7_rotate_0_L5 (x1 : Int) (x2 : Int) (ex0 : Mem → Int → Int → Option (Int × Mem)) : Nat → Mem → Int → Int → Option (Int × Mem)
  | 0, _, _, _ => none
  | n0 + 1, σ3, v1, v2 => if v2 < (σ3 0 1) then if rng (6 * x1) then if rng ((6 * x1) + v2) then if (0 : Int) ≤ ((6 * x1) + v2) ∧ (((6 * x1) + v2) : Int) < 4320 then if rng (6 * x2) then if rng ((6 * x2) + v2) then if (0 : Int) ≤ ((6 * x2) + v2) ∧ (((6 * x2) + v2) : Int) < 4320 then if (σ3 5 ((6 * x1) + v2)) = (σ3 5 ((6 * x2) + v2)) then if rng (v2 + 1) then fX7_rotate_0_L5 x1 x2 ex0 n0 σ3 v1 (v2 + 1) else none else if rng (6 * (σ3 0 10)) then if rng ((6 * (σ3 0 10)) + v1) then if (0 : Int) ≤ ((6 * (σ3 0 10)) + v1) ∧ (((6 * (σ3 0 10)) + v1) : Int) < 384 then nx (mup σ3 7 ((6 * (σ3 0 10)) + v1) v2) fun σ14 => if rng (6 * (σ14 0 10)) then if rng ((6 * (σ14 0 10)) + v1) then if rng (6 * x1) then if rng ((6 * x1) + v2) then if (0 : Int) ≤ ((6 * x1) + v2) ∧ (((6 * x1) + v2) : Int) < 4320 then if (0 : Int) ≤ ((6 * (σ14 0 10)) + v1) ∧ (((6 * (σ14 0 10)) + v1) : Int) < 384 then nx (mup σ14 8 ((6 * (σ14 0 10)) + v1) (σ14 5 ((6 * x1) + v2))) fun σ21 => if rng (6 * (σ21 0 10)) then if rng ((6 * (σ21 0 10)) + v1) then if rng (6 * x2) then if rng ((6 * x2) + v2) then if (0 : Int) ≤ ((6 * x2) + v2) ∧ (((6 * x2) + v2) : Int) < 4320 then if (0 : Int) ≤ ((6 * (σ21 0 10)) + v1) ∧ (((6 * (σ21 0 10)) + v1) : Int) < 384 then nx (mup σ21 9 ((6 * (σ21 0 10)) + v1) (σ21 5 ((6 * x2) + v2))) fun σ28 => if rng (v1 + 1) then if rng (v2 + 1) then fX7_rotate_0_L5 x1 x2 ex0 n0 σ28 (v1 + 1) (v2 + 1) else none else none else none else none else none else none else none else none else none else none else none else none else none else none else none else none else none else none else none else none else none else none else none else ex0 σ3 v1 v2
def fX7_rotate_0_L164 (v33 : Int) (σ37 : Mem) (v39 : Int) (ex1 : Int → Int → Option (Int × Mem)) : Nat → Int → Int → Option (Int × Mem)
  | 0, _, _ => none
  | n1 + 1, v41, v42 => if v42 < v33 then if v41 = 0 then ex1 v41 v42 else if rng (6 * v39) then if rng ((6 * v39) + v42) then if (0 : Int) ≤ ((6 * v39) + v42) ∧ (((6 * v39) + v42) : Int) < 384 then if rng (6 * (σ37 0 10)) then if rng ((6 * (σ37 0 10)) + v42) then if (0 : Int) ≤ ((6 * (σ37 0 10)) + v42) ∧ (((6 * (σ37 0 10)) + v42) : Int) < 384 then if (σ37 7 ((6 * v39) + v42)) = (σ37 7 ((6 * (σ37 0 10)) + v42)) then if rng (6 * v39) then if rng ((6 * v39) + v42) then if (0 : Int) ≤ ((6 * v39) + v42) ∧ (((6 * v39) + v42) : Int) < 384 then if rng (6 * (σ37 0 10)) then if rng ((6 * (σ37 0 10)) + v42) then if (0 : Int) ≤ ((6 * (σ37 0 10)) + v42) ∧ (((6 * (σ37 0 10)) + v42) : Int) < 384 then if (σ37 8 ((6 * v39) + v42)) = (σ37 8 ((6 * (σ37 0 10)) + v42)) then if rng (6 * v39) then if rng ((6 * v39) + v42) then if (0 : Int) ≤ ((6 * v39) + v42) ∧ (((6 * v39) + v42) : Int) < 384 then if rng (6 * (σ37 0 10)) then if rng ((6 * (σ37 0 10)) + v42) then if (0 : Int) ≤ ((6 * (σ37 0 10)) + v42) ∧ (((6 * (σ37 0 10)) + v42) : Int) < 384 then if (σ37 9 ((6 * v39) + v42)) = (σ37 9 ((6 * (σ37 0 10)) + v42)) then if rng (v42 + 1) then fX7_rotate_0_L164 v33 σ37 v39 ex1 n1 1 (v42 + 1) else none else if rng (v42 + 1) then fX7_rotate_0_L164 v33 σ37 v39 ex1 n1 0 (v42 + 1) else none else none else none else none else none else none else none else if rng (v42 + 1) then fX7_rotate_0_L164 v33 σ37 v39 ex1 n1 0 (v42 + 1) else none else none else none else none else none else none else none else if rng (v42 + 1) then fX7_rotate_0_L164 v33 σ37 v39 ex1 n1 0 (v42 + 1) else none else none else none else none else none else none else none else ex1 v41 v42
def fX7_rotate_0_L134 (v33 : Int) (σ37 : Mem) (ex0 : Int → Int → Option (Int × Mem)) : Nat → Int → Int → Option (Int × Mem)
  | 0, _, _ => none
  | n0 + 1, v38, v39 => if v39 < (σ37 0 10) then if (0 : Int) ≤ v39 ∧ (v39 : Int) < 64 then if (σ37 6 v39) = v33 then fX7_rotate_0_L164 v33 σ37 v39 (fun v106 v107 => if v38 = 0 then if rng (v39 + 1) then fX7_rotate_0_L134 v33 σ37 ex0 n0 0 (v39 + 1) else none else if v106 = 0 then if rng (v39 + 1) then fX7_rotate_0_L134 v33 σ37 ex0 n0 1 (v39 + 1) else none else if rng (v39 + 1) then fX7_rotate_0_L134 v33 σ37 ex0 n0 0 (v39 + 1) else none) FU 1 0 else fX7_rotate_0_L164 v33 σ37 v39 (fun v70 v71 => if v38 = 0 then if rng (v39 + 1) then fX7_rotate_0_L134 v33 σ37 ex0 n0 0 (v39 + 1) else none else if v70 = 0 then if rng (v39 + 1) then fX7_rotate_0_L134 v33 σ37 ex0 n0 1 (v39 + 1) else none else if rng (v39 + 1) then fX7_rotate_0_L134 v33 σ37 ex0 n0 0 (v39 + 1) else none) FU 0 0 else none else ex0 v38 v39
def fX7_rotate_0 (σ : Mem) (x1 : Int) (x2 : Int) : Option (Int × Mem) := fX7_rotate_0_L5 x1 x2 (fun σ35 v33 v34 => if (0 : Int) ≤ (σ35 0 10) ∧ ((σ35 0 10) : Int) < 64 then nx (mup σ35 6 (σ35 0 10) v33) fun σ37 => fX7_rotate_0_L134 v33 σ37 (fun v115 v116 => if v115 = 0 then if rng ((σ37 0 10) + 0) then nx (mup σ37 0 10 ((σ37 0 10) + 0)) fun σ118 => some (0, σ118) else none else if (σ37 0 10) < 63 then if rng ((σ37 0 10) + 1) then nx (mup σ37 0 10 ((σ37 0 10) + 1)) fun σ122 => some (0, σ122) else none else if rng ((σ37 0 10) + 0) then nx (mup σ37 0 10 ((σ37 0 10) + 0)) fun σ120 => some (0, σ120) else none) FU 1 0 else none) FU σ 0 0
set_option maxHeartbeats 4000000 in
set_option maxRecDepth 100000 in
theorem kX7_rotate_0 (l : Launch) (dC : Nat → ClassId) (dI : Nat → Nat → Nat) (cI : ClassId) (a : Nat → Nat) (hi : ∀ i j, i < 12 → j < 12 → a i = a j → i = j) (σ : Mem) (x1 : Int) (x2 : Int) (r : (Int × Mem)) (hf : fX7_rotate_0 σ x1 x2 = some r) (hR : Rg σ) (rx1 : rng x1) (rx2 : rng x2) : Met l yX7_rotate wsX7_rotate ({ frames := 0, cells := 0, slots := 0, locals := 0 }) (va_Pc [.ref (a 0), .int (iN x1), .int (iN x2)] (preM dC dI cI a σ)) (qMv (dC, dI) (gw 12 a (mE cI a)) (gA 12 a) r) 0 0 (gA 12 a) := by
  refine Met.ofW (cc := cX7_rotate) (maxL := 8) (ret := none) (by decide) rfl ?_
  intro p e s m args below meth c s₁ B hml hv
  obtain ⟨hargs, hP, hK⟩ := hv
  have hx := B.exec
  have hb := B.bytes
  have hr := B.returns
  have hts := atoms_spec (ws := wsX7_rotate) B.pre
  have hown : s.vm.findClass RX7 = some m.cls := findClass_of_methodNamed B.named
  have hlocks := B.notSynchronized
  have hS : va_S (gA 12 a) s.heap s.heap [] := va_S.rf
  have iX7 : ∀ w ∈ wsX70, w ∈ wsX7_rotate := by decide +kernel
  have fl102 := hts (.fieldLink RX7 102 "MatchHallModel" "rotations" "I") (by decide +kernel)
  have fl29 := hts (.fieldLink RX7 29 "MatchHallModel" "stable" "[I") (by decide +kernel)
  have fl32 := hts (.fieldLink RX7 32 "MatchHallModel" "size" "[I") (by decide +kernel)
  have fl35 := hts (.fieldLink RX7 35 "MatchHallModel" "members" "[I") (by decide +kernel)
  have fl38 := hts (.fieldLink RX7 38 "MatchHallModel" "leaves" "[I") (by decide +kernel)
  have fl41 := hts (.fieldLink RX7 41 "MatchHallModel" "gets" "[I") (by decide +kernel)
  have fl7 := hts (.fieldLink RX7 7 "MatchHallModel" "residents" "I") (by decide +kernel)
  have hrm : 0 ≤ (headSpec wsX7_rotate ({ frames := 0, cells := 0, slots := 0, locals := 0 })).room.frames ∧ 0 ≤ (headSpec wsX7_rotate ({ frames := 0, cells := 0, slots := 0, locals := 0 })).room.locals := ⟨Nat.le_refl _, Nat.le_refl _⟩
  generalize (headSpec wsX7_rotate ({ frames := 0, cells := 0, slots := 0, locals := 0 })).room = RR at hrm ⊢
  have hl := lv_entry ([.ref (a 0), .int (iN x1), .int (iN x2)]) (n := 8) (Nat.le_of_ble_eq_true rfl)
  rw [show entryFrame m args 8 = entryFrame m ([.ref (a 0), .int (iN x1), .int (iN x2)] : List Value).toArray 8 from by rw [hargs], lg_entry_eq]
  generalize (lg_sl ([.ref (a 0), .int (iN x1), .int (iN x2)]) ++ List.replicate (8 - (lg_sl ([.ref (a 0), .int (iN x1), .int (iN x2)])).length) Slot.unset).toArray = ls at hl ⊢
  have hl : lv_has ls 8 [(0, .ref (a 0)), (1, .int (iN x1)), (2, .int (iN x2))] := hl
  generalize hQQ : MQ below (qMv (dC, dI) (gw 12 a (mE cI a)) (gA 12 a) r) args s 0 0 (gA 12 a) = QQ
  refine lv_iconst (v := iN 0) hx hb dX7_rotate_0 rfl ?_
  refine lv_istore_n (lv' := [(3, .int (iN 0)), (0, .ref (a 0)), (1, .int (iN x1)), (2, .int (iN x2))]) hx hb dX7_rotate_1 rfl hl (by decide) rfl (fun ls hl => ?_)
  refine lv_iconst (v := iN 0) hx hb dX7_rotate_2 rfl ?_
  refine lv_istore (lv' := [(4, .int (iN 0)), (3, .int (iN 0)), (0, .ref (a 0)), (1, .int (iN x1)), (2, .int (iN x2))]) hx hb dX7_rotate_3 hl (by decide) rfl (fun ls hl => ?_)
  have L_fX7_rotate_0_L5 : ∀ (EX0 : Mem → Int → Int → Option (Int × Mem)), (∀ (σ3 : Mem) (v1 : Int) (v2 : Int), Rg σ3 → rng v1 → rng v2 → EX0 σ3 v1 v2 = some r → ∀ H locs ls, va_P (dC, dI) vwCl (gw 12 a (mE cI a) σ3) H → va_S (gA 12 a) s.heap H locs → lv_has ls 8 [(0, .ref (a 0)), (1, .int (iN x1)), (2, .int (iN x2)), (3, .int (iN v1)), (4, .int (iN v2))] → W p l e RR s m args below meth c H locs 0 0 QQ (F0 m 118 ls [])) → ∀ n0 : Nat, ∀ (σ3 : Mem) (v1 : Int) (v2 : Int), Rg σ3 → rng v1 → rng v2 → fX7_rotate_0_L5 x1 x2 EX0 n0 σ3 v1 v2 = some r → ∀ H locs ls, va_P (dC, dI) vwCl (gw 12 a (mE cI a) σ3) H → va_S (gA 12 a) s.heap H locs → lv_has ls 8 [(0, .ref (a 0)), (1, .int (iN x1)), (2, .int (iN x2)), (3, .int (iN v1)), (4, .int (iN v2))] → W p l e RR s m args below meth c H locs 0 0 QQ (F0 m 5 ls []) := by
    intro EX0 hEX0 n0
    induction n0 with
    | zero => intro _ _ _ _ _ _ hf; cases hf
    | succ n0 ih0 =>
      intro σ3 v1 v2 hRσ3 rv1 rv2 hf H locs ls hP hS hl
      rw [fX7_rotate_0_L5] at hf
      refine lv_iload hx hb dX7_rotate_5 (lv_at hl 4 rfl) ?_
      refine lv_aload_n hx hb dX7_rotate_7 rfl (lv_at hl 0 rfl) ?_
      refine x_get (C := RX7) (T := TX7) (NF := 17) (v := .int (iN (σ3 0 1))) hx hb hts iX7 hown hK hP 0 (by decide) (mE_0 cI a (_)) rfl 1 (by decide) fl7 rfl dX7_rotate_8 ?_
      refine x_icmp_ge (tgt := 118) hx hb rv2 (hRσ3 0 1) dX7_rotate_11 (by decide) (fun c32 => ?_) (fun c32 => ?_)
      · replace hf := (if_neg c32).symm.trans hf
        exact hEX0 _ _ _ hRσ3 rv1 rv2 hf _ _ _ hP hS (lv_sub hl [0, 1, 2, 3, 4] rfl)
      · replace hf := (if_pos c32).symm.trans hf
        refine lv_aload_n hx hb dX7_rotate_14 rfl (lv_at hl 0 rfl) ?_
        refine x_get (C := RX7) (T := TX7) (NF := 17) (v := .ref (a 5)) hx hb hts iX7 hown hK hP 0 (by decide) (mE_0 cI a (_)) rfl 9 (by decide) fl29 rfl dX7_rotate_15 ?_
        refine lv_bipush (v := iN 6) hx hb dX7_rotate_18 (by decide) ?_
        refine lv_iload_n hx hb dX7_rotate_20 rfl (lv_at hl 1 rfl) ?_
        obtain ⟨g4, hf⟩ := gd hf
        refine x_imul hx hb dX7_rotate_21 ?_
        refine lv_iload hx hb dX7_rotate_22 (lv_at hl 4 rfl) ?_
        obtain ⟨g5, hf⟩ := gd hf
        refine x_iadd hx hb dX7_rotate_24 ?_
        obtain ⟨g6, hf⟩ := gd hf
        refine x_iald hx hb hK hP 5 0 (by decide) (mE_5 cI a (_)) (by decide) rfl g6 dX7_rotate_25 ?_
        refine lv_aload_n hx hb dX7_rotate_26 rfl (lv_at hl 0 rfl) ?_
        refine x_get (C := RX7) (T := TX7) (NF := 17) (v := .ref (a 5)) hx hb hts iX7 hown hK hP 0 (by decide) (mE_0 cI a (_)) rfl 9 (by decide) fl29 rfl dX7_rotate_27 ?_
        refine lv_bipush (v := iN 6) hx hb dX7_rotate_30 (by decide) ?_
        refine lv_iload_n hx hb dX7_rotate_32 rfl (lv_at hl 2 rfl) ?_
        obtain ⟨g7, hf⟩ := gd hf
        refine x_imul hx hb dX7_rotate_33 ?_
        refine lv_iload hx hb dX7_rotate_34 (lv_at hl 4 rfl) ?_
        obtain ⟨g8, hf⟩ := gd hf
        refine x_iadd hx hb dX7_rotate_36 ?_
        obtain ⟨g9, hf⟩ := gd hf
        refine x_iald hx hb hK hP 5 0 (by decide) (mE_5 cI a (_)) (by decide) rfl g9 dX7_rotate_37 ?_
        refine x_icmp_eq (tgt := 112) hx hb (hRσ3 5 ((6 * x1) + v2)) (hRσ3 5 ((6 * x2) + v2)) dX7_rotate_38 (by decide) (fun c31 => ?_) (fun c31 => ?_)
        · replace hf := (if_pos c31).symm.trans hf
          obtain ⟨g10, hf⟩ := gd hf
          refine lv_iinc (v := iN (v2 + 1)) (lv' := [(4, .int (iN (v2 + 1))), (0, .ref (a 0)), (1, .int (iN x1)), (2, .int (iN x2)), (3, .int (iN v1))]) hx hb dX7_rotate_112 hl (k := 4) rfl (iN_add v2 1) (by decide) rfl (fun ls hl => ?_)
          refine lv_goto (tgt := 5) hx hb dX7_rotate_115 (by decide) ?_
          exact ih0 _ _ _ hRσ3 rv1 g10 hf _ _ _ hP hS (lv_sub hl [1, 2, 3, 4, 0] rfl)
        · replace hf := (if_neg c31).symm.trans hf
          refine lv_aload_n hx hb dX7_rotate_41 rfl (lv_at hl 0 rfl) ?_
          refine x_get (C := RX7) (T := TX7) (NF := 17) (v := .ref (a 7)) hx hb hts iX7 hown hK hP 0 (by decide) (mE_0 cI a (_)) rfl 12 (by decide) fl35 rfl dX7_rotate_42 ?_
          refine lv_bipush (v := iN 6) hx hb dX7_rotate_45 (by decide) ?_
          refine lv_aload_n hx hb dX7_rotate_47 rfl (lv_at hl 0 rfl) ?_
          refine x_get (C := RX7) (T := TX7) (NF := 17) (v := .int (iN (σ3 0 10))) hx hb hts iX7 hown hK hP 0 (by decide) (mE_0 cI a (_)) rfl 10 (by decide) fl102 rfl dX7_rotate_48 ?_
          obtain ⟨g11, hf⟩ := gd hf
          refine x_imul hx hb dX7_rotate_51 ?_
          refine lv_iload_n hx hb dX7_rotate_52 rfl (lv_at hl 3 rfl) ?_
          obtain ⟨g12, hf⟩ := gd hf
          refine x_iadd hx hb dX7_rotate_53 ?_
          refine lv_iload hx hb dX7_rotate_54 (lv_at hl 4 rfl) ?_
          obtain ⟨g13, hf⟩ := gd hf
          obtain ⟨σ14, hσ14, hf⟩ := nxe hf
          refine x_iast (x := v2) hx hb hi hK hP hS 7 0 (by decide) (mE_7 cI a) (by decide) rfl g13 dX7_rotate_56 (fun H locs hP hS => ?_)
          rw [← hσ14] at hP
          have hRσ14 : Rg σ14 := by rw [hσ14]; exact Rg_up hRσ3 rv2
          refine lv_aload_n hx hb dX7_rotate_57 rfl (lv_at hl 0 rfl) ?_
          refine x_get (C := RX7) (T := TX7) (NF := 17) (v := .ref (a 8)) hx hb hts iX7 hown hK hP 0 (by decide) (mE_0 cI a (_)) rfl 13 (by decide) fl38 rfl dX7_rotate_58 ?_
          refine lv_bipush (v := iN 6) hx hb dX7_rotate_61 (by decide) ?_
          refine lv_aload_n hx hb dX7_rotate_63 rfl (lv_at hl 0 rfl) ?_
          refine x_get (C := RX7) (T := TX7) (NF := 17) (v := .int (iN (σ14 0 10))) hx hb hts iX7 hown hK hP 0 (by decide) (mE_0 cI a (_)) rfl 10 (by decide) fl102 rfl dX7_rotate_64 ?_
          obtain ⟨g15, hf⟩ := gd hf
          refine x_imul hx hb dX7_rotate_67 ?_
          refine lv_iload_n hx hb dX7_rotate_68 rfl (lv_at hl 3 rfl) ?_
          obtain ⟨g16, hf⟩ := gd hf
          refine x_iadd hx hb dX7_rotate_69 ?_
          refine lv_aload_n hx hb dX7_rotate_70 rfl (lv_at hl 0 rfl) ?_
          refine x_get (C := RX7) (T := TX7) (NF := 17) (v := .ref (a 5)) hx hb hts iX7 hown hK hP 0 (by decide) (mE_0 cI a (_)) rfl 9 (by decide) fl29 rfl dX7_rotate_71 ?_
          refine lv_bipush (v := iN 6) hx hb dX7_rotate_74 (by decide) ?_
          refine lv_iload_n hx hb dX7_rotate_76 rfl (lv_at hl 1 rfl) ?_
          obtain ⟨g17, hf⟩ := gd hf
          refine x_imul hx hb dX7_rotate_77 ?_
          refine lv_iload hx hb dX7_rotate_78 (lv_at hl 4 rfl) ?_
          obtain ⟨g18, hf⟩ := gd hf
          refine x_iadd hx hb dX7_rotate_80 ?_
          obtain ⟨g19, hf⟩ := gd hf
          refine x_iald hx hb hK hP 5 0 (by decide) (mE_5 cI a (_)) (by decide) rfl g19 dX7_rotate_81 ?_
          obtain ⟨g20, hf⟩ := gd hf
          obtain ⟨σ21, hσ21, hf⟩ := nxe hf
          refine x_iast (x := (σ14 5 ((6 * x1) + v2))) hx hb hi hK hP hS 8 0 (by decide) (mE_8 cI a) (by decide) rfl g20 dX7_rotate_82 (fun H locs hP hS => ?_)
          rw [← hσ21] at hP
          have hRσ21 : Rg σ21 := by rw [hσ21]; exact Rg_up hRσ14 (hRσ14 5 ((6 * x1) + v2))
          refine lv_aload_n hx hb dX7_rotate_83 rfl (lv_at hl 0 rfl) ?_
          refine x_get (C := RX7) (T := TX7) (NF := 17) (v := .ref (a 9)) hx hb hts iX7 hown hK hP 0 (by decide) (mE_0 cI a (_)) rfl 14 (by decide) fl41 rfl dX7_rotate_84 ?_
          refine lv_bipush (v := iN 6) hx hb dX7_rotate_87 (by decide) ?_
          refine lv_aload_n hx hb dX7_rotate_89 rfl (lv_at hl 0 rfl) ?_
          refine x_get (C := RX7) (T := TX7) (NF := 17) (v := .int (iN (σ21 0 10))) hx hb hts iX7 hown hK hP 0 (by decide) (mE_0 cI a (_)) rfl 10 (by decide) fl102 rfl dX7_rotate_90 ?_
          obtain ⟨g22, hf⟩ := gd hf
          refine x_imul hx hb dX7_rotate_93 ?_
          refine lv_iload_n hx hb dX7_rotate_94 rfl (lv_at hl 3 rfl) ?_
          obtain ⟨g23, hf⟩ := gd hf
          refine x_iadd hx hb dX7_rotate_95 ?_
          refine lv_aload_n hx hb dX7_rotate_96 rfl (lv_at hl 0 rfl) ?_
          refine x_get (C := RX7) (T := TX7) (NF := 17) (v := .ref (a 5)) hx hb hts iX7 hown hK hP 0 (by decide) (mE_0 cI a (_)) rfl 9 (by decide) fl29 rfl dX7_rotate_97 ?_
          refine lv_bipush (v := iN 6) hx hb dX7_rotate_100 (by decide) ?_
          refine lv_iload_n hx hb dX7_rotate_102 rfl (lv_at hl 2 rfl) ?_
          obtain ⟨g24, hf⟩ := gd hf
          refine x_imul hx hb dX7_rotate_103 ?_
          refine lv_iload hx hb dX7_rotate_104 (lv_at hl 4 rfl) ?_
          obtain ⟨g25, hf⟩ := gd hf
          refine x_iadd hx hb dX7_rotate_106 ?_
          obtain ⟨g26, hf⟩ := gd hf
          refine x_iald hx hb hK hP 5 0 (by decide) (mE_5 cI a (_)) (by decide) rfl g26 dX7_rotate_107 ?_
          obtain ⟨g27, hf⟩ := gd hf
          obtain ⟨σ28, hσ28, hf⟩ := nxe hf
          refine x_iast (x := (σ21 5 ((6 * x2) + v2))) hx hb hi hK hP hS 9 0 (by decide) (mE_9 cI a) (by decide) rfl g27 dX7_rotate_108 (fun H locs hP hS => ?_)
          rw [← hσ28] at hP
          have hRσ28 : Rg σ28 := by rw [hσ28]; exact Rg_up hRσ21 (hRσ21 5 ((6 * x2) + v2))
          obtain ⟨g29, hf⟩ := gd hf
          refine lv_iinc (v := iN (v1 + 1)) (lv' := [(3, .int (iN (v1 + 1))), (0, .ref (a 0)), (1, .int (iN x1)), (2, .int (iN x2)), (4, .int (iN v2))]) hx hb dX7_rotate_109 hl (k := 3) rfl (iN_add v1 1) (by decide) rfl (fun ls hl => ?_)
          obtain ⟨g30, hf⟩ := gd hf
          refine lv_iinc (v := iN (v2 + 1)) (lv' := [(4, .int (iN (v2 + 1))), (3, .int (iN (v1 + 1))), (0, .ref (a 0)), (1, .int (iN x1)), (2, .int (iN x2))]) hx hb dX7_rotate_112 hl (k := 4) rfl (iN_add v2 1) (by decide) rfl (fun ls hl => ?_)
          refine lv_goto (tgt := 5) hx hb dX7_rotate_115 (by decide) ?_
          exact ih0 _ _ _ hRσ28 g29 g30 hf _ _ _ hP hS (lv_sub hl [2, 3, 4, 1, 0] rfl)
  refine L_fX7_rotate_0_L5 _ (fun σ35 v33 v34 hRσ35 rv33 rv34 hf H locs ls hP hS hl => ?_) _ _ _ _ hR (by decide) (by decide) hf _ _ _ hP hS (lv_sub hl [2, 3, 4, 1, 0] rfl)
  refine lv_aload_n hx hb dX7_rotate_118 rfl (lv_at hl 0 rfl) ?_
  refine x_get (C := RX7) (T := TX7) (NF := 17) (v := .ref (a 6)) hx hb hts iX7 hown hK hP 0 (by decide) (mE_0 cI a (_)) rfl 11 (by decide) fl32 rfl dX7_rotate_119 ?_
  refine lv_aload_n hx hb dX7_rotate_122 rfl (lv_at hl 0 rfl) ?_
  refine x_get (C := RX7) (T := TX7) (NF := 17) (v := .int (iN (σ35 0 10))) hx hb hts iX7 hown hK hP 0 (by decide) (mE_0 cI a (_)) rfl 10 (by decide) fl102 rfl dX7_rotate_123 ?_
  refine lv_iload_n hx hb dX7_rotate_126 rfl (lv_at hl 3 rfl) ?_
  obtain ⟨g36, hf⟩ := gd hf
  obtain ⟨σ37, hσ37, hf⟩ := nxe hf
  refine x_iast (x := v33) hx hb hi hK hP hS 6 0 (by decide) (mE_6 cI a) (by decide) rfl g36 dX7_rotate_127 (fun H locs hP hS => ?_)
  rw [← hσ37] at hP
  have hRσ37 : Rg σ37 := by rw [hσ37]; exact Rg_up hRσ35 rv33
  refine lv_iconst (v := iN 1) hx hb dX7_rotate_128 rfl ?_
  refine lv_istore (lv' := [(4, .int (iN 1)), (0, .ref (a 0)), (1, .int (iN x1)), (2, .int (iN x2)), (3, .int (iN v33))]) hx hb dX7_rotate_129 hl (by decide) rfl (fun ls hl => ?_)
  refine lv_iconst (v := iN 0) hx hb dX7_rotate_131 rfl ?_
  refine lv_istore (lv' := [(5, .int (iN 0)), (4, .int (iN 1)), (0, .ref (a 0)), (1, .int (iN x1)), (2, .int (iN x2)), (3, .int (iN v33))]) hx hb dX7_rotate_132 hl (by decide) rfl (fun ls hl => ?_)
  have L_fX7_rotate_0_L134 : ∀ (EX0 : Int → Int → Option (Int × Mem)), (∀ (v38 : Int) (v39 : Int), rng v38 → rng v39 → EX0 v38 v39 = some r → ∀ H locs ls, va_P (dC, dI) vwCl (gw 12 a (mE cI a) σ37) H → va_S (gA 12 a) s.heap H locs → lv_has ls 8 [(0, .ref (a 0)), (1, .int (iN x1)), (2, .int (iN x2)), (3, .int (iN v33)), (4, .int (iN v38)), (5, .int (iN v39))] → W p l e RR s m args below meth c H locs 0 0 QQ (F0 m 304 ls [])) → ∀ n0 : Nat, ∀ (v38 : Int) (v39 : Int), rng v38 → rng v39 → fX7_rotate_0_L134 v33 σ37 EX0 n0 v38 v39 = some r → ∀ H locs ls, va_P (dC, dI) vwCl (gw 12 a (mE cI a) σ37) H → va_S (gA 12 a) s.heap H locs → lv_has ls 8 [(0, .ref (a 0)), (1, .int (iN x1)), (2, .int (iN x2)), (3, .int (iN v33)), (4, .int (iN v38)), (5, .int (iN v39))] → W p l e RR s m args below meth c H locs 0 0 QQ (F0 m 134 ls []) := by
    intro EX0 hEX0 n0
    induction n0 with
    | zero => intro _ _ _ _ hf; cases hf
    | succ n0 ih0 =>
      intro v38 v39 rv38 rv39 hf H locs ls hP hS hl
      rw [fX7_rotate_0_L134] at hf
      refine lv_iload hx hb dX7_rotate_134 (lv_at hl 5 rfl) ?_
      refine lv_aload_n hx hb dX7_rotate_136 rfl (lv_at hl 0 rfl) ?_
      refine x_get (C := RX7) (T := TX7) (NF := 17) (v := .int (iN (σ37 0 10))) hx hb hts iX7 hown hK hP 0 (by decide) (mE_0 cI a (_)) rfl 10 (by decide) fl102 rfl dX7_rotate_137 ?_
      refine x_icmp_ge (tgt := 304) hx hb rv39 (hRσ37 0 10) dX7_rotate_140 (by decide) (fun c114 => ?_) (fun c114 => ?_)
      · replace hf := (if_neg c114).symm.trans hf
        exact hEX0 _ _ rv38 rv39 hf _ _ _ hP hS (lv_sub hl [0, 1, 2, 3, 4, 5] rfl)
      · replace hf := (if_pos c114).symm.trans hf
        refine lv_aload_n hx hb dX7_rotate_143 rfl (lv_at hl 0 rfl) ?_
        refine x_get (C := RX7) (T := TX7) (NF := 17) (v := .ref (a 6)) hx hb hts iX7 hown hK hP 0 (by decide) (mE_0 cI a (_)) rfl 11 (by decide) fl32 rfl dX7_rotate_144 ?_
        refine lv_iload hx hb dX7_rotate_147 (lv_at hl 5 rfl) ?_
        obtain ⟨g40, hf⟩ := gd hf
        refine x_iald hx hb hK hP 6 0 (by decide) (mE_6 cI a (_)) (by decide) rfl g40 dX7_rotate_149 ?_
        refine lv_iload_n hx hb dX7_rotate_150 rfl (lv_at hl 3 rfl) ?_
        refine x_icmp_ne (tgt := 158) hx hb (hRσ37 6 v39) rv33 dX7_rotate_151 (by decide) (fun c113 => ?_) (fun c113 => ?_)
        · replace hf := (if_neg c113).symm.trans hf
          refine lv_iconst (v := iN 0) hx hb dX7_rotate_158 rfl ?_
          refine lv_istore (lv' := [(6, .int (iN 0)), (0, .ref (a 0)), (1, .int (iN x1)), (2, .int (iN x2)), (3, .int (iN v33)), (4, .int (iN v38)), (5, .int (iN v39))]) hx hb dX7_rotate_159 hl (by decide) rfl (fun ls hl => ?_)
          refine lv_iconst (v := iN 0) hx hb dX7_rotate_161 rfl ?_
          refine lv_istore (lv' := [(7, .int (iN 0)), (6, .int (iN 0)), (0, .ref (a 0)), (1, .int (iN x1)), (2, .int (iN x2)), (3, .int (iN v33)), (4, .int (iN v38)), (5, .int (iN v39))]) hx hb dX7_rotate_162 hl (by decide) rfl (fun ls hl => ?_)
          have L_fX7_rotate_0_L164 : ∀ (EX1 : Int → Int → Option (Int × Mem)), (∀ (v41 : Int) (v42 : Int), rng v41 → rng v42 → EX1 v41 v42 = some r → ∀ H locs ls, va_P (dC, dI) vwCl (gw 12 a (mE cI a) σ37) H → va_S (gA 12 a) s.heap H locs → lv_has ls 8 [(0, .ref (a 0)), (1, .int (iN x1)), (2, .int (iN x2)), (3, .int (iN v33)), (4, .int (iN v38)), (5, .int (iN v39)), (6, .int (iN v41)), (7, .int (iN v42))] → W p l e RR s m args below meth c H locs 0 0 QQ (F0 m 281 ls [])) → ∀ n1 : Nat, ∀ (v41 : Int) (v42 : Int), rng v41 → rng v42 → fX7_rotate_0_L164 v33 σ37 v39 EX1 n1 v41 v42 = some r → ∀ H locs ls, va_P (dC, dI) vwCl (gw 12 a (mE cI a) σ37) H → va_S (gA 12 a) s.heap H locs → lv_has ls 8 [(0, .ref (a 0)), (1, .int (iN x1)), (2, .int (iN x2)), (3, .int (iN v33)), (4, .int (iN v38)), (5, .int (iN v39)), (6, .int (iN v41)), (7, .int (iN v42))] → W p l e RR s m args below meth c H locs 0 0 QQ (F0 m 164 ls []) := by
            intro EX1 hEX1 n1
            induction n1 with
            | zero => intro _ _ _ _ hf; cases hf
            | succ n1 ih1 =>
              intro v41 v42 rv41 rv42 hf H locs ls hP hS hl
              rw [fX7_rotate_0_L164] at hf
              refine lv_iload hx hb dX7_rotate_164 (lv_at hl 7 rfl) ?_
              refine lv_iload_n hx hb dX7_rotate_166 rfl (lv_at hl 3 rfl) ?_
              refine x_icmp_ge (tgt := 281) hx hb rv42 rv33 dX7_rotate_167 (by decide) (fun c69 => ?_) (fun c69 => ?_)
              · replace hf := (if_neg c69).symm.trans hf
                exact hEX1 _ _ rv41 rv42 hf _ _ _ hP hS (lv_sub hl [0, 1, 2, 3, 4, 5, 6, 7] rfl)
              · replace hf := (if_pos c69).symm.trans hf
                refine lv_iload hx hb dX7_rotate_170 (lv_at hl 6 rfl) ?_
                refine x_if_eq (tgt := 281) hx hb rv41 dX7_rotate_172 (by decide) (fun c68 => ?_) (fun c68 => ?_)
                · replace hf := (if_pos c68).symm.trans hf
                  exact hEX1 _ _ rv41 rv42 hf _ _ _ hP hS (lv_sub hl [0, 1, 2, 3, 4, 5, 6, 7] rfl)
                · replace hf := (if_neg c68).symm.trans hf
                  refine lv_aload_n hx hb dX7_rotate_175 rfl (lv_at hl 0 rfl) ?_
                  refine x_get (C := RX7) (T := TX7) (NF := 17) (v := .ref (a 7)) hx hb hts iX7 hown hK hP 0 (by decide) (mE_0 cI a (_)) rfl 12 (by decide) fl35 rfl dX7_rotate_176 ?_
                  refine lv_bipush (v := iN 6) hx hb dX7_rotate_179 (by decide) ?_
                  refine lv_iload hx hb dX7_rotate_181 (lv_at hl 5 rfl) ?_
                  obtain ⟨g43, hf⟩ := gd hf
                  refine x_imul hx hb dX7_rotate_183 ?_
                  refine lv_iload hx hb dX7_rotate_184 (lv_at hl 7 rfl) ?_
                  obtain ⟨g44, hf⟩ := gd hf
                  refine x_iadd hx hb dX7_rotate_186 ?_
                  obtain ⟨g45, hf⟩ := gd hf
                  refine x_iald hx hb hK hP 7 0 (by decide) (mE_7 cI a (_)) (by decide) rfl g45 dX7_rotate_187 ?_
                  refine lv_aload_n hx hb dX7_rotate_188 rfl (lv_at hl 0 rfl) ?_
                  refine x_get (C := RX7) (T := TX7) (NF := 17) (v := .ref (a 7)) hx hb hts iX7 hown hK hP 0 (by decide) (mE_0 cI a (_)) rfl 12 (by decide) fl35 rfl dX7_rotate_189 ?_
                  refine lv_bipush (v := iN 6) hx hb dX7_rotate_192 (by decide) ?_
                  refine lv_aload_n hx hb dX7_rotate_194 rfl (lv_at hl 0 rfl) ?_
                  refine x_get (C := RX7) (T := TX7) (NF := 17) (v := .int (iN (σ37 0 10))) hx hb hts iX7 hown hK hP 0 (by decide) (mE_0 cI a (_)) rfl 10 (by decide) fl102 rfl dX7_rotate_195 ?_
                  obtain ⟨g46, hf⟩ := gd hf
                  refine x_imul hx hb dX7_rotate_198 ?_
                  refine lv_iload hx hb dX7_rotate_199 (lv_at hl 7 rfl) ?_
                  obtain ⟨g47, hf⟩ := gd hf
                  refine x_iadd hx hb dX7_rotate_201 ?_
                  obtain ⟨g48, hf⟩ := gd hf
                  refine x_iald hx hb hK hP 7 0 (by decide) (mE_7 cI a (_)) (by decide) rfl g48 dX7_rotate_202 ?_
                  refine x_icmp_ne (tgt := 272) hx hb (hRσ37 7 ((6 * v39) + v42)) (hRσ37 7 ((6 * (σ37 0 10)) + v42)) dX7_rotate_203 (by decide) (fun c67 => ?_) (fun c67 => ?_)
                  · replace hf := (if_neg c67).symm.trans hf
                    refine lv_iconst (v := iN 0) hx hb dX7_rotate_272 rfl ?_
                    refine lv_istore (lv' := [(6, .int (iN 0)), (0, .ref (a 0)), (1, .int (iN x1)), (2, .int (iN x2)), (3, .int (iN v33)), (4, .int (iN v38)), (5, .int (iN v39)), (7, .int (iN v42))]) hx hb dX7_rotate_273 hl (by decide) rfl (fun ls hl => ?_)
                    obtain ⟨g49, hf⟩ := gd hf
                    refine lv_iinc (v := iN (v42 + 1)) (lv' := [(7, .int (iN (v42 + 1))), (6, .int (iN 0)), (0, .ref (a 0)), (1, .int (iN x1)), (2, .int (iN x2)), (3, .int (iN v33)), (4, .int (iN v38)), (5, .int (iN v39))]) hx hb dX7_rotate_275 hl (k := 7) rfl (iN_add v42 1) (by decide) rfl (fun ls hl => ?_)
                    refine lv_goto (tgt := 164) hx hb dX7_rotate_278 (by decide) ?_
                    exact ih1 _ _ (by decide) g49 hf _ _ _ hP hS (lv_sub hl [2, 3, 4, 5, 6, 7, 1, 0] rfl)
                  · replace hf := (if_pos c67).symm.trans hf
                    refine lv_aload_n hx hb dX7_rotate_206 rfl (lv_at hl 0 rfl) ?_
                    refine x_get (C := RX7) (T := TX7) (NF := 17) (v := .ref (a 8)) hx hb hts iX7 hown hK hP 0 (by decide) (mE_0 cI a (_)) rfl 13 (by decide) fl38 rfl dX7_rotate_207 ?_
                    refine lv_bipush (v := iN 6) hx hb dX7_rotate_210 (by decide) ?_
                    refine lv_iload hx hb dX7_rotate_212 (lv_at hl 5 rfl) ?_
                    obtain ⟨g50, hf⟩ := gd hf
                    refine x_imul hx hb dX7_rotate_214 ?_
                    refine lv_iload hx hb dX7_rotate_215 (lv_at hl 7 rfl) ?_
                    obtain ⟨g51, hf⟩ := gd hf
                    refine x_iadd hx hb dX7_rotate_217 ?_
                    obtain ⟨g52, hf⟩ := gd hf
                    refine x_iald hx hb hK hP 8 0 (by decide) (mE_8 cI a (_)) (by decide) rfl g52 dX7_rotate_218 ?_
                    refine lv_aload_n hx hb dX7_rotate_219 rfl (lv_at hl 0 rfl) ?_
                    refine x_get (C := RX7) (T := TX7) (NF := 17) (v := .ref (a 8)) hx hb hts iX7 hown hK hP 0 (by decide) (mE_0 cI a (_)) rfl 13 (by decide) fl38 rfl dX7_rotate_220 ?_
                    refine lv_bipush (v := iN 6) hx hb dX7_rotate_223 (by decide) ?_
                    refine lv_aload_n hx hb dX7_rotate_225 rfl (lv_at hl 0 rfl) ?_
                    refine x_get (C := RX7) (T := TX7) (NF := 17) (v := .int (iN (σ37 0 10))) hx hb hts iX7 hown hK hP 0 (by decide) (mE_0 cI a (_)) rfl 10 (by decide) fl102 rfl dX7_rotate_226 ?_
                    obtain ⟨g53, hf⟩ := gd hf
                    refine x_imul hx hb dX7_rotate_229 ?_
                    refine lv_iload hx hb dX7_rotate_230 (lv_at hl 7 rfl) ?_
                    obtain ⟨g54, hf⟩ := gd hf
                    refine x_iadd hx hb dX7_rotate_232 ?_
                    obtain ⟨g55, hf⟩ := gd hf
                    refine x_iald hx hb hK hP 8 0 (by decide) (mE_8 cI a (_)) (by decide) rfl g55 dX7_rotate_233 ?_
                    refine x_icmp_ne (tgt := 272) hx hb (hRσ37 8 ((6 * v39) + v42)) (hRσ37 8 ((6 * (σ37 0 10)) + v42)) dX7_rotate_234 (by decide) (fun c66 => ?_) (fun c66 => ?_)
                    · replace hf := (if_neg c66).symm.trans hf
                      refine lv_iconst (v := iN 0) hx hb dX7_rotate_272 rfl ?_
                      refine lv_istore (lv' := [(6, .int (iN 0)), (0, .ref (a 0)), (1, .int (iN x1)), (2, .int (iN x2)), (3, .int (iN v33)), (4, .int (iN v38)), (5, .int (iN v39)), (7, .int (iN v42))]) hx hb dX7_rotate_273 hl (by decide) rfl (fun ls hl => ?_)
                      obtain ⟨g56, hf⟩ := gd hf
                      refine lv_iinc (v := iN (v42 + 1)) (lv' := [(7, .int (iN (v42 + 1))), (6, .int (iN 0)), (0, .ref (a 0)), (1, .int (iN x1)), (2, .int (iN x2)), (3, .int (iN v33)), (4, .int (iN v38)), (5, .int (iN v39))]) hx hb dX7_rotate_275 hl (k := 7) rfl (iN_add v42 1) (by decide) rfl (fun ls hl => ?_)
                      refine lv_goto (tgt := 164) hx hb dX7_rotate_278 (by decide) ?_
                      exact ih1 _ _ (by decide) g56 hf _ _ _ hP hS (lv_sub hl [2, 3, 4, 5, 6, 7, 1, 0] rfl)
                    · replace hf := (if_pos c66).symm.trans hf
                      refine lv_aload_n hx hb dX7_rotate_237 rfl (lv_at hl 0 rfl) ?_
                      refine x_get (C := RX7) (T := TX7) (NF := 17) (v := .ref (a 9)) hx hb hts iX7 hown hK hP 0 (by decide) (mE_0 cI a (_)) rfl 14 (by decide) fl41 rfl dX7_rotate_238 ?_
                      refine lv_bipush (v := iN 6) hx hb dX7_rotate_241 (by decide) ?_
                      refine lv_iload hx hb dX7_rotate_243 (lv_at hl 5 rfl) ?_
                      obtain ⟨g57, hf⟩ := gd hf
                      refine x_imul hx hb dX7_rotate_245 ?_
                      refine lv_iload hx hb dX7_rotate_246 (lv_at hl 7 rfl) ?_
                      obtain ⟨g58, hf⟩ := gd hf
                      refine x_iadd hx hb dX7_rotate_248 ?_
                      obtain ⟨g59, hf⟩ := gd hf
                      refine x_iald hx hb hK hP 9 0 (by decide) (mE_9 cI a (_)) (by decide) rfl g59 dX7_rotate_249 ?_
                      refine lv_aload_n hx hb dX7_rotate_250 rfl (lv_at hl 0 rfl) ?_
                      refine x_get (C := RX7) (T := TX7) (NF := 17) (v := .ref (a 9)) hx hb hts iX7 hown hK hP 0 (by decide) (mE_0 cI a (_)) rfl 14 (by decide) fl41 rfl dX7_rotate_251 ?_
                      refine lv_bipush (v := iN 6) hx hb dX7_rotate_254 (by decide) ?_
                      refine lv_aload_n hx hb dX7_rotate_256 rfl (lv_at hl 0 rfl) ?_
                      refine x_get (C := RX7) (T := TX7) (NF := 17) (v := .int (iN (σ37 0 10))) hx hb hts iX7 hown hK hP 0 (by decide) (mE_0 cI a (_)) rfl 10 (by decide) fl102 rfl dX7_rotate_257 ?_
                      obtain ⟨g60, hf⟩ := gd hf
                      refine x_imul hx hb dX7_rotate_260 ?_
                      refine lv_iload hx hb dX7_rotate_261 (lv_at hl 7 rfl) ?_
                      obtain ⟨g61, hf⟩ := gd hf
                      refine x_iadd hx hb dX7_rotate_263 ?_
                      obtain ⟨g62, hf⟩ := gd hf
                      refine x_iald hx hb hK hP 9 0 (by decide) (mE_9 cI a (_)) (by decide) rfl g62 dX7_rotate_264 ?_
                      refine x_icmp_ne (tgt := 272) hx hb (hRσ37 9 ((6 * v39) + v42)) (hRσ37 9 ((6 * (σ37 0 10)) + v42)) dX7_rotate_265 (by decide) (fun c65 => ?_) (fun c65 => ?_)
                      · replace hf := (if_neg c65).symm.trans hf
                        refine lv_iconst (v := iN 0) hx hb dX7_rotate_272 rfl ?_
                        refine lv_istore (lv' := [(6, .int (iN 0)), (0, .ref (a 0)), (1, .int (iN x1)), (2, .int (iN x2)), (3, .int (iN v33)), (4, .int (iN v38)), (5, .int (iN v39)), (7, .int (iN v42))]) hx hb dX7_rotate_273 hl (by decide) rfl (fun ls hl => ?_)
                        obtain ⟨g63, hf⟩ := gd hf
                        refine lv_iinc (v := iN (v42 + 1)) (lv' := [(7, .int (iN (v42 + 1))), (6, .int (iN 0)), (0, .ref (a 0)), (1, .int (iN x1)), (2, .int (iN x2)), (3, .int (iN v33)), (4, .int (iN v38)), (5, .int (iN v39))]) hx hb dX7_rotate_275 hl (k := 7) rfl (iN_add v42 1) (by decide) rfl (fun ls hl => ?_)
                        refine lv_goto (tgt := 164) hx hb dX7_rotate_278 (by decide) ?_
                        exact ih1 _ _ (by decide) g63 hf _ _ _ hP hS (lv_sub hl [2, 3, 4, 5, 6, 7, 1, 0] rfl)
                      · replace hf := (if_pos c65).symm.trans hf
                        refine lv_iconst (v := iN 1) hx hb dX7_rotate_268 rfl ?_
                        refine lv_goto (tgt := 273) hx hb dX7_rotate_269 (by decide) ?_
                        refine lv_istore (lv' := [(6, .int (iN 1)), (0, .ref (a 0)), (1, .int (iN x1)), (2, .int (iN x2)), (3, .int (iN v33)), (4, .int (iN v38)), (5, .int (iN v39)), (7, .int (iN v42))]) hx hb dX7_rotate_273 hl (by decide) rfl (fun ls hl => ?_)
                        obtain ⟨g64, hf⟩ := gd hf
                        refine lv_iinc (v := iN (v42 + 1)) (lv' := [(7, .int (iN (v42 + 1))), (6, .int (iN 1)), (0, .ref (a 0)), (1, .int (iN x1)), (2, .int (iN x2)), (3, .int (iN v33)), (4, .int (iN v38)), (5, .int (iN v39))]) hx hb dX7_rotate_275 hl (k := 7) rfl (iN_add v42 1) (by decide) rfl (fun ls hl => ?_)
                        refine lv_goto (tgt := 164) hx hb dX7_rotate_278 (by decide) ?_
                        exact ih1 _ _ (by decide) g64 hf _ _ _ hP hS (lv_sub hl [2, 3, 4, 5, 6, 7, 1, 0] rfl)
          refine L_fX7_rotate_0_L164 _ (fun v70 v71 rv70 rv71 hf H locs ls hP hS hl => ?_) _ _ _ (by decide) (by decide) hf _ _ _ hP hS (lv_sub hl [2, 3, 4, 5, 6, 7, 1, 0] rfl)
          refine lv_iload hx hb dX7_rotate_281 (lv_at hl 4 rfl) ?_
          refine x_if_eq (tgt := 295) hx hb rv38 dX7_rotate_283 (by decide) (fun c76 => ?_) (fun c76 => ?_)
          · replace hf := (if_pos c76).symm.trans hf
            refine lv_iconst (v := iN 0) hx hb dX7_rotate_295 rfl ?_
            refine lv_istore (lv' := [(4, .int (iN 0)), (0, .ref (a 0)), (1, .int (iN x1)), (2, .int (iN x2)), (3, .int (iN v33)), (5, .int (iN v39)), (6, .int (iN v70)), (7, .int (iN v71))]) hx hb dX7_rotate_296 hl (by decide) rfl (fun ls hl => ?_)
            obtain ⟨g72, hf⟩ := gd hf
            refine lv_iinc (v := iN (v39 + 1)) (lv' := [(5, .int (iN (v39 + 1))), (4, .int (iN 0)), (0, .ref (a 0)), (1, .int (iN x1)), (2, .int (iN x2)), (3, .int (iN v33)), (6, .int (iN v70)), (7, .int (iN v71))]) hx hb dX7_rotate_298 hl (k := 5) rfl (iN_add v39 1) (by decide) rfl (fun ls hl => ?_)
            refine lv_goto (tgt := 134) hx hb dX7_rotate_301 (by decide) ?_
            exact ih0 _ _ (by decide) g72 hf _ _ _ hP hS (lv_sub hl [2, 3, 4, 5, 1, 0] rfl)
          · replace hf := (if_neg c76).symm.trans hf
            refine lv_iload hx hb dX7_rotate_286 (lv_at hl 6 rfl) ?_
            refine x_if_ne (tgt := 295) hx hb rv70 dX7_rotate_288 (by decide) (fun c75 => ?_) (fun c75 => ?_)
            · replace hf := (if_neg c75).symm.trans hf
              refine lv_iconst (v := iN 0) hx hb dX7_rotate_295 rfl ?_
              refine lv_istore (lv' := [(4, .int (iN 0)), (0, .ref (a 0)), (1, .int (iN x1)), (2, .int (iN x2)), (3, .int (iN v33)), (5, .int (iN v39)), (6, .int (iN v70)), (7, .int (iN v71))]) hx hb dX7_rotate_296 hl (by decide) rfl (fun ls hl => ?_)
              obtain ⟨g73, hf⟩ := gd hf
              refine lv_iinc (v := iN (v39 + 1)) (lv' := [(5, .int (iN (v39 + 1))), (4, .int (iN 0)), (0, .ref (a 0)), (1, .int (iN x1)), (2, .int (iN x2)), (3, .int (iN v33)), (6, .int (iN v70)), (7, .int (iN v71))]) hx hb dX7_rotate_298 hl (k := 5) rfl (iN_add v39 1) (by decide) rfl (fun ls hl => ?_)
              refine lv_goto (tgt := 134) hx hb dX7_rotate_301 (by decide) ?_
              exact ih0 _ _ (by decide) g73 hf _ _ _ hP hS (lv_sub hl [2, 3, 4, 5, 1, 0] rfl)
            · replace hf := (if_pos c75).symm.trans hf
              refine lv_iconst (v := iN 1) hx hb dX7_rotate_291 rfl ?_
              refine lv_goto (tgt := 296) hx hb dX7_rotate_292 (by decide) ?_
              refine lv_istore (lv' := [(4, .int (iN 1)), (0, .ref (a 0)), (1, .int (iN x1)), (2, .int (iN x2)), (3, .int (iN v33)), (5, .int (iN v39)), (6, .int (iN v70)), (7, .int (iN v71))]) hx hb dX7_rotate_296 hl (by decide) rfl (fun ls hl => ?_)
              obtain ⟨g74, hf⟩ := gd hf
              refine lv_iinc (v := iN (v39 + 1)) (lv' := [(5, .int (iN (v39 + 1))), (4, .int (iN 1)), (0, .ref (a 0)), (1, .int (iN x1)), (2, .int (iN x2)), (3, .int (iN v33)), (6, .int (iN v70)), (7, .int (iN v71))]) hx hb dX7_rotate_298 hl (k := 5) rfl (iN_add v39 1) (by decide) rfl (fun ls hl => ?_)
              refine lv_goto (tgt := 134) hx hb dX7_rotate_301 (by decide) ?_
              exact ih0 _ _ (by decide) g74 hf _ _ _ hP hS (lv_sub hl [2, 3, 4, 5, 1, 0] rfl)
        · replace hf := (if_pos c113).symm.trans hf
          refine lv_iconst (v := iN 1) hx hb dX7_rotate_154 rfl ?_
          refine lv_goto (tgt := 159) hx hb dX7_rotate_155 (by decide) ?_
          refine lv_istore (lv' := [(6, .int (iN 1)), (0, .ref (a 0)), (1, .int (iN x1)), (2, .int (iN x2)), (3, .int (iN v33)), (4, .int (iN v38)), (5, .int (iN v39))]) hx hb dX7_rotate_159 hl (by decide) rfl (fun ls hl => ?_)
          refine lv_iconst (v := iN 0) hx hb dX7_rotate_161 rfl ?_
          refine lv_istore (lv' := [(7, .int (iN 0)), (6, .int (iN 1)), (0, .ref (a 0)), (1, .int (iN x1)), (2, .int (iN x2)), (3, .int (iN v33)), (4, .int (iN v38)), (5, .int (iN v39))]) hx hb dX7_rotate_162 hl (by decide) rfl (fun ls hl => ?_)
          have L_fX7_rotate_0_L164_2 : ∀ (EX1 : Int → Int → Option (Int × Mem)), (∀ (v77 : Int) (v78 : Int), rng v77 → rng v78 → EX1 v77 v78 = some r → ∀ H locs ls, va_P (dC, dI) vwCl (gw 12 a (mE cI a) σ37) H → va_S (gA 12 a) s.heap H locs → lv_has ls 8 [(0, .ref (a 0)), (1, .int (iN x1)), (2, .int (iN x2)), (3, .int (iN v33)), (4, .int (iN v38)), (5, .int (iN v39)), (6, .int (iN v77)), (7, .int (iN v78))] → W p l e RR s m args below meth c H locs 0 0 QQ (F0 m 281 ls [])) → ∀ n1 : Nat, ∀ (v77 : Int) (v78 : Int), rng v77 → rng v78 → fX7_rotate_0_L164 v33 σ37 v39 EX1 n1 v77 v78 = some r → ∀ H locs ls, va_P (dC, dI) vwCl (gw 12 a (mE cI a) σ37) H → va_S (gA 12 a) s.heap H locs → lv_has ls 8 [(0, .ref (a 0)), (1, .int (iN x1)), (2, .int (iN x2)), (3, .int (iN v33)), (4, .int (iN v38)), (5, .int (iN v39)), (6, .int (iN v77)), (7, .int (iN v78))] → W p l e RR s m args below meth c H locs 0 0 QQ (F0 m 164 ls []) := by
            intro EX1 hEX1 n1
            induction n1 with
            | zero => intro _ _ _ _ hf; cases hf
            | succ n1 ih1 =>
              intro v77 v78 rv77 rv78 hf H locs ls hP hS hl
              rw [fX7_rotate_0_L164] at hf
              refine lv_iload hx hb dX7_rotate_164 (lv_at hl 7 rfl) ?_
              refine lv_iload_n hx hb dX7_rotate_166 rfl (lv_at hl 3 rfl) ?_
              refine x_icmp_ge (tgt := 281) hx hb rv78 rv33 dX7_rotate_167 (by decide) (fun c105 => ?_) (fun c105 => ?_)
              · replace hf := (if_neg c105).symm.trans hf
                exact hEX1 _ _ rv77 rv78 hf _ _ _ hP hS (lv_sub hl [0, 1, 2, 3, 4, 5, 6, 7] rfl)
              · replace hf := (if_pos c105).symm.trans hf
                refine lv_iload hx hb dX7_rotate_170 (lv_at hl 6 rfl) ?_
                refine x_if_eq (tgt := 281) hx hb rv77 dX7_rotate_172 (by decide) (fun c104 => ?_) (fun c104 => ?_)
                · replace hf := (if_pos c104).symm.trans hf
                  exact hEX1 _ _ rv77 rv78 hf _ _ _ hP hS (lv_sub hl [0, 1, 2, 3, 4, 5, 6, 7] rfl)
                · replace hf := (if_neg c104).symm.trans hf
                  refine lv_aload_n hx hb dX7_rotate_175 rfl (lv_at hl 0 rfl) ?_
                  refine x_get (C := RX7) (T := TX7) (NF := 17) (v := .ref (a 7)) hx hb hts iX7 hown hK hP 0 (by decide) (mE_0 cI a (_)) rfl 12 (by decide) fl35 rfl dX7_rotate_176 ?_
                  refine lv_bipush (v := iN 6) hx hb dX7_rotate_179 (by decide) ?_
                  refine lv_iload hx hb dX7_rotate_181 (lv_at hl 5 rfl) ?_
                  obtain ⟨g79, hf⟩ := gd hf
                  refine x_imul hx hb dX7_rotate_183 ?_
                  refine lv_iload hx hb dX7_rotate_184 (lv_at hl 7 rfl) ?_
                  obtain ⟨g80, hf⟩ := gd hf
                  refine x_iadd hx hb dX7_rotate_186 ?_
                  obtain ⟨g81, hf⟩ := gd hf
                  refine x_iald hx hb hK hP 7 0 (by decide) (mE_7 cI a (_)) (by decide) rfl g81 dX7_rotate_187 ?_
                  refine lv_aload_n hx hb dX7_rotate_188 rfl (lv_at hl 0 rfl) ?_
                  refine x_get (C := RX7) (T := TX7) (NF := 17) (v := .ref (a 7)) hx hb hts iX7 hown hK hP 0 (by decide) (mE_0 cI a (_)) rfl 12 (by decide) fl35 rfl dX7_rotate_189 ?_
                  refine lv_bipush (v := iN 6) hx hb dX7_rotate_192 (by decide) ?_
                  refine lv_aload_n hx hb dX7_rotate_194 rfl (lv_at hl 0 rfl) ?_
                  refine x_get (C := RX7) (T := TX7) (NF := 17) (v := .int (iN (σ37 0 10))) hx hb hts iX7 hown hK hP 0 (by decide) (mE_0 cI a (_)) rfl 10 (by decide) fl102 rfl dX7_rotate_195 ?_
                  obtain ⟨g82, hf⟩ := gd hf
                  refine x_imul hx hb dX7_rotate_198 ?_
                  refine lv_iload hx hb dX7_rotate_199 (lv_at hl 7 rfl) ?_
                  obtain ⟨g83, hf⟩ := gd hf
                  refine x_iadd hx hb dX7_rotate_201 ?_
                  obtain ⟨g84, hf⟩ := gd hf
                  refine x_iald hx hb hK hP 7 0 (by decide) (mE_7 cI a (_)) (by decide) rfl g84 dX7_rotate_202 ?_
                  refine x_icmp_ne (tgt := 272) hx hb (hRσ37 7 ((6 * v39) + v78)) (hRσ37 7 ((6 * (σ37 0 10)) + v78)) dX7_rotate_203 (by decide) (fun c103 => ?_) (fun c103 => ?_)
                  · replace hf := (if_neg c103).symm.trans hf
                    refine lv_iconst (v := iN 0) hx hb dX7_rotate_272 rfl ?_
                    refine lv_istore (lv' := [(6, .int (iN 0)), (0, .ref (a 0)), (1, .int (iN x1)), (2, .int (iN x2)), (3, .int (iN v33)), (4, .int (iN v38)), (5, .int (iN v39)), (7, .int (iN v78))]) hx hb dX7_rotate_273 hl (by decide) rfl (fun ls hl => ?_)
                    obtain ⟨g85, hf⟩ := gd hf
                    refine lv_iinc (v := iN (v78 + 1)) (lv' := [(7, .int (iN (v78 + 1))), (6, .int (iN 0)), (0, .ref (a 0)), (1, .int (iN x1)), (2, .int (iN x2)), (3, .int (iN v33)), (4, .int (iN v38)), (5, .int (iN v39))]) hx hb dX7_rotate_275 hl (k := 7) rfl (iN_add v78 1) (by decide) rfl (fun ls hl => ?_)
                    refine lv_goto (tgt := 164) hx hb dX7_rotate_278 (by decide) ?_
                    exact ih1 _ _ (by decide) g85 hf _ _ _ hP hS (lv_sub hl [2, 3, 4, 5, 6, 7, 1, 0] rfl)
                  · replace hf := (if_pos c103).symm.trans hf
                    refine lv_aload_n hx hb dX7_rotate_206 rfl (lv_at hl 0 rfl) ?_
                    refine x_get (C := RX7) (T := TX7) (NF := 17) (v := .ref (a 8)) hx hb hts iX7 hown hK hP 0 (by decide) (mE_0 cI a (_)) rfl 13 (by decide) fl38 rfl dX7_rotate_207 ?_
                    refine lv_bipush (v := iN 6) hx hb dX7_rotate_210 (by decide) ?_
                    refine lv_iload hx hb dX7_rotate_212 (lv_at hl 5 rfl) ?_
                    obtain ⟨g86, hf⟩ := gd hf
                    refine x_imul hx hb dX7_rotate_214 ?_
                    refine lv_iload hx hb dX7_rotate_215 (lv_at hl 7 rfl) ?_
                    obtain ⟨g87, hf⟩ := gd hf
                    refine x_iadd hx hb dX7_rotate_217 ?_
                    obtain ⟨g88, hf⟩ := gd hf
                    refine x_iald hx hb hK hP 8 0 (by decide) (mE_8 cI a (_)) (by decide) rfl g88 dX7_rotate_218 ?_
                    refine lv_aload_n hx hb dX7_rotate_219 rfl (lv_at hl 0 rfl) ?_
                    refine x_get (C := RX7) (T := TX7) (NF := 17) (v := .ref (a 8)) hx hb hts iX7 hown hK hP 0 (by decide) (mE_0 cI a (_)) rfl 13 (by decide) fl38 rfl dX7_rotate_220 ?_
                    refine lv_bipush (v := iN 6) hx hb dX7_rotate_223 (by decide) ?_
                    refine lv_aload_n hx hb dX7_rotate_225 rfl (lv_at hl 0 rfl) ?_
                    refine x_get (C := RX7) (T := TX7) (NF := 17) (v := .int (iN (σ37 0 10))) hx hb hts iX7 hown hK hP 0 (by decide) (mE_0 cI a (_)) rfl 10 (by decide) fl102 rfl dX7_rotate_226 ?_
                    obtain ⟨g89, hf⟩ := gd hf
                    refine x_imul hx hb dX7_rotate_229 ?_
                    refine lv_iload hx hb dX7_rotate_230 (lv_at hl 7 rfl) ?_
                    obtain ⟨g90, hf⟩ := gd hf
                    refine x_iadd hx hb dX7_rotate_232 ?_
                    obtain ⟨g91, hf⟩ := gd hf
                    refine x_iald hx hb hK hP 8 0 (by decide) (mE_8 cI a (_)) (by decide) rfl g91 dX7_rotate_233 ?_
                    refine x_icmp_ne (tgt := 272) hx hb (hRσ37 8 ((6 * v39) + v78)) (hRσ37 8 ((6 * (σ37 0 10)) + v78)) dX7_rotate_234 (by decide) (fun c102 => ?_) (fun c102 => ?_)
                    · replace hf := (if_neg c102).symm.trans hf
                      refine lv_iconst (v := iN 0) hx hb dX7_rotate_272 rfl ?_
                      refine lv_istore (lv' := [(6, .int (iN 0)), (0, .ref (a 0)), (1, .int (iN x1)), (2, .int (iN x2)), (3, .int (iN v33)), (4, .int (iN v38)), (5, .int (iN v39)), (7, .int (iN v78))]) hx hb dX7_rotate_273 hl (by decide) rfl (fun ls hl => ?_)
                      obtain ⟨g92, hf⟩ := gd hf
                      refine lv_iinc (v := iN (v78 + 1)) (lv' := [(7, .int (iN (v78 + 1))), (6, .int (iN 0)), (0, .ref (a 0)), (1, .int (iN x1)), (2, .int (iN x2)), (3, .int (iN v33)), (4, .int (iN v38)), (5, .int (iN v39))]) hx hb dX7_rotate_275 hl (k := 7) rfl (iN_add v78 1) (by decide) rfl (fun ls hl => ?_)
                      refine lv_goto (tgt := 164) hx hb dX7_rotate_278 (by decide) ?_
                      exact ih1 _ _ (by decide) g92 hf _ _ _ hP hS (lv_sub hl [2, 3, 4, 5, 6, 7, 1, 0] rfl)
                    · replace hf := (if_pos c102).symm.trans hf
                      refine lv_aload_n hx hb dX7_rotate_237 rfl (lv_at hl 0 rfl) ?_
                      refine x_get (C := RX7) (T := TX7) (NF := 17) (v := .ref (a 9)) hx hb hts iX7 hown hK hP 0 (by decide) (mE_0 cI a (_)) rfl 14 (by decide) fl41 rfl dX7_rotate_238 ?_
                      refine lv_bipush (v := iN 6) hx hb dX7_rotate_241 (by decide) ?_
                      refine lv_iload hx hb dX7_rotate_243 (lv_at hl 5 rfl) ?_
                      obtain ⟨g93, hf⟩ := gd hf
                      refine x_imul hx hb dX7_rotate_245 ?_
                      refine lv_iload hx hb dX7_rotate_246 (lv_at hl 7 rfl) ?_
                      obtain ⟨g94, hf⟩ := gd hf
                      refine x_iadd hx hb dX7_rotate_248 ?_
                      obtain ⟨g95, hf⟩ := gd hf
                      refine x_iald hx hb hK hP 9 0 (by decide) (mE_9 cI a (_)) (by decide) rfl g95 dX7_rotate_249 ?_
                      refine lv_aload_n hx hb dX7_rotate_250 rfl (lv_at hl 0 rfl) ?_
                      refine x_get (C := RX7) (T := TX7) (NF := 17) (v := .ref (a 9)) hx hb hts iX7 hown hK hP 0 (by decide) (mE_0 cI a (_)) rfl 14 (by decide) fl41 rfl dX7_rotate_251 ?_
                      refine lv_bipush (v := iN 6) hx hb dX7_rotate_254 (by decide) ?_
                      refine lv_aload_n hx hb dX7_rotate_256 rfl (lv_at hl 0 rfl) ?_
                      refine x_get (C := RX7) (T := TX7) (NF := 17) (v := .int (iN (σ37 0 10))) hx hb hts iX7 hown hK hP 0 (by decide) (mE_0 cI a (_)) rfl 10 (by decide) fl102 rfl dX7_rotate_257 ?_
                      obtain ⟨g96, hf⟩ := gd hf
                      refine x_imul hx hb dX7_rotate_260 ?_
                      refine lv_iload hx hb dX7_rotate_261 (lv_at hl 7 rfl) ?_
                      obtain ⟨g97, hf⟩ := gd hf
                      refine x_iadd hx hb dX7_rotate_263 ?_
                      obtain ⟨g98, hf⟩ := gd hf
                      refine x_iald hx hb hK hP 9 0 (by decide) (mE_9 cI a (_)) (by decide) rfl g98 dX7_rotate_264 ?_
                      refine x_icmp_ne (tgt := 272) hx hb (hRσ37 9 ((6 * v39) + v78)) (hRσ37 9 ((6 * (σ37 0 10)) + v78)) dX7_rotate_265 (by decide) (fun c101 => ?_) (fun c101 => ?_)
                      · replace hf := (if_neg c101).symm.trans hf
                        refine lv_iconst (v := iN 0) hx hb dX7_rotate_272 rfl ?_
                        refine lv_istore (lv' := [(6, .int (iN 0)), (0, .ref (a 0)), (1, .int (iN x1)), (2, .int (iN x2)), (3, .int (iN v33)), (4, .int (iN v38)), (5, .int (iN v39)), (7, .int (iN v78))]) hx hb dX7_rotate_273 hl (by decide) rfl (fun ls hl => ?_)
                        obtain ⟨g99, hf⟩ := gd hf
                        refine lv_iinc (v := iN (v78 + 1)) (lv' := [(7, .int (iN (v78 + 1))), (6, .int (iN 0)), (0, .ref (a 0)), (1, .int (iN x1)), (2, .int (iN x2)), (3, .int (iN v33)), (4, .int (iN v38)), (5, .int (iN v39))]) hx hb dX7_rotate_275 hl (k := 7) rfl (iN_add v78 1) (by decide) rfl (fun ls hl => ?_)
                        refine lv_goto (tgt := 164) hx hb dX7_rotate_278 (by decide) ?_
                        exact ih1 _ _ (by decide) g99 hf _ _ _ hP hS (lv_sub hl [2, 3, 4, 5, 6, 7, 1, 0] rfl)
                      · replace hf := (if_pos c101).symm.trans hf
                        refine lv_iconst (v := iN 1) hx hb dX7_rotate_268 rfl ?_
                        refine lv_goto (tgt := 273) hx hb dX7_rotate_269 (by decide) ?_
                        refine lv_istore (lv' := [(6, .int (iN 1)), (0, .ref (a 0)), (1, .int (iN x1)), (2, .int (iN x2)), (3, .int (iN v33)), (4, .int (iN v38)), (5, .int (iN v39)), (7, .int (iN v78))]) hx hb dX7_rotate_273 hl (by decide) rfl (fun ls hl => ?_)
                        obtain ⟨g100, hf⟩ := gd hf
                        refine lv_iinc (v := iN (v78 + 1)) (lv' := [(7, .int (iN (v78 + 1))), (6, .int (iN 1)), (0, .ref (a 0)), (1, .int (iN x1)), (2, .int (iN x2)), (3, .int (iN v33)), (4, .int (iN v38)), (5, .int (iN v39))]) hx hb dX7_rotate_275 hl (k := 7) rfl (iN_add v78 1) (by decide) rfl (fun ls hl => ?_)
                        refine lv_goto (tgt := 164) hx hb dX7_rotate_278 (by decide) ?_
                        exact ih1 _ _ (by decide) g100 hf _ _ _ hP hS (lv_sub hl [2, 3, 4, 5, 6, 7, 1, 0] rfl)
          refine L_fX7_rotate_0_L164_2 _ (fun v106 v107 rv106 rv107 hf H locs ls hP hS hl => ?_) _ _ _ (by decide) (by decide) hf _ _ _ hP hS (lv_sub hl [2, 3, 4, 5, 6, 7, 1, 0] rfl)
          refine lv_iload hx hb dX7_rotate_281 (lv_at hl 4 rfl) ?_
          refine x_if_eq (tgt := 295) hx hb rv38 dX7_rotate_283 (by decide) (fun c112 => ?_) (fun c112 => ?_)
          · replace hf := (if_pos c112).symm.trans hf
            refine lv_iconst (v := iN 0) hx hb dX7_rotate_295 rfl ?_
            refine lv_istore (lv' := [(4, .int (iN 0)), (0, .ref (a 0)), (1, .int (iN x1)), (2, .int (iN x2)), (3, .int (iN v33)), (5, .int (iN v39)), (6, .int (iN v106)), (7, .int (iN v107))]) hx hb dX7_rotate_296 hl (by decide) rfl (fun ls hl => ?_)
            obtain ⟨g108, hf⟩ := gd hf
            refine lv_iinc (v := iN (v39 + 1)) (lv' := [(5, .int (iN (v39 + 1))), (4, .int (iN 0)), (0, .ref (a 0)), (1, .int (iN x1)), (2, .int (iN x2)), (3, .int (iN v33)), (6, .int (iN v106)), (7, .int (iN v107))]) hx hb dX7_rotate_298 hl (k := 5) rfl (iN_add v39 1) (by decide) rfl (fun ls hl => ?_)
            refine lv_goto (tgt := 134) hx hb dX7_rotate_301 (by decide) ?_
            exact ih0 _ _ (by decide) g108 hf _ _ _ hP hS (lv_sub hl [2, 3, 4, 5, 1, 0] rfl)
          · replace hf := (if_neg c112).symm.trans hf
            refine lv_iload hx hb dX7_rotate_286 (lv_at hl 6 rfl) ?_
            refine x_if_ne (tgt := 295) hx hb rv106 dX7_rotate_288 (by decide) (fun c111 => ?_) (fun c111 => ?_)
            · replace hf := (if_neg c111).symm.trans hf
              refine lv_iconst (v := iN 0) hx hb dX7_rotate_295 rfl ?_
              refine lv_istore (lv' := [(4, .int (iN 0)), (0, .ref (a 0)), (1, .int (iN x1)), (2, .int (iN x2)), (3, .int (iN v33)), (5, .int (iN v39)), (6, .int (iN v106)), (7, .int (iN v107))]) hx hb dX7_rotate_296 hl (by decide) rfl (fun ls hl => ?_)
              obtain ⟨g109, hf⟩ := gd hf
              refine lv_iinc (v := iN (v39 + 1)) (lv' := [(5, .int (iN (v39 + 1))), (4, .int (iN 0)), (0, .ref (a 0)), (1, .int (iN x1)), (2, .int (iN x2)), (3, .int (iN v33)), (6, .int (iN v106)), (7, .int (iN v107))]) hx hb dX7_rotate_298 hl (k := 5) rfl (iN_add v39 1) (by decide) rfl (fun ls hl => ?_)
              refine lv_goto (tgt := 134) hx hb dX7_rotate_301 (by decide) ?_
              exact ih0 _ _ (by decide) g109 hf _ _ _ hP hS (lv_sub hl [2, 3, 4, 5, 1, 0] rfl)
            · replace hf := (if_pos c111).symm.trans hf
              refine lv_iconst (v := iN 1) hx hb dX7_rotate_291 rfl ?_
              refine lv_goto (tgt := 296) hx hb dX7_rotate_292 (by decide) ?_
              refine lv_istore (lv' := [(4, .int (iN 1)), (0, .ref (a 0)), (1, .int (iN x1)), (2, .int (iN x2)), (3, .int (iN v33)), (5, .int (iN v39)), (6, .int (iN v106)), (7, .int (iN v107))]) hx hb dX7_rotate_296 hl (by decide) rfl (fun ls hl => ?_)
              obtain ⟨g110, hf⟩ := gd hf
              refine lv_iinc (v := iN (v39 + 1)) (lv' := [(5, .int (iN (v39 + 1))), (4, .int (iN 1)), (0, .ref (a 0)), (1, .int (iN x1)), (2, .int (iN x2)), (3, .int (iN v33)), (6, .int (iN v106)), (7, .int (iN v107))]) hx hb dX7_rotate_298 hl (k := 5) rfl (iN_add v39 1) (by decide) rfl (fun ls hl => ?_)
              refine lv_goto (tgt := 134) hx hb dX7_rotate_301 (by decide) ?_
              exact ih0 _ _ (by decide) g110 hf _ _ _ hP hS (lv_sub hl [2, 3, 4, 5, 1, 0] rfl)
  refine L_fX7_rotate_0_L134 _ (fun v115 v116 rv115 rv116 hf H locs ls hP hS hl => ?_) _ _ _ (by decide) (by decide) hf _ _ _ hP hS (lv_sub hl [2, 3, 4, 5, 1, 0] rfl)
  refine lv_aload_n hx hb dX7_rotate_304 rfl (lv_at hl 0 rfl) ?_
  refine lv_dup hx hb dX7_rotate_305 rfl ?_
  refine x_get (C := RX7) (T := TX7) (NF := 17) (v := .int (iN (σ37 0 10))) hx hb hts iX7 hown hK hP 0 (by decide) (mE_0 cI a (_)) rfl 10 (by decide) fl102 rfl dX7_rotate_306 ?_
  refine lv_iload hx hb dX7_rotate_309 (lv_at hl 4 rfl) ?_
  refine x_if_eq (tgt := 327) hx hb rv115 dX7_rotate_311 (by decide) (fun c124 => ?_) (fun c124 => ?_)
  · replace hf := (if_pos c124).symm.trans hf
    refine lv_iconst (v := iN 0) hx hb dX7_rotate_327 rfl ?_
    obtain ⟨g117, hf⟩ := gd hf
    refine x_iadd hx hb dX7_rotate_328 ?_
    obtain ⟨σ118, hσ118, hf⟩ := nxe hf
    refine x_put (C := RX7) (T := TX7) (NF := 17) (x := ((σ37 0 10) + 0)) (ty := .int) hx hb hts iX7 tyX7 tyX7_ok nmX7 hi hown hK hP hS 0 (by decide) (mE_0 cI a (_)) rfl 10 10 (by decide) fl102 rfl (by decide +kernel) rfl rfl (Nat.le_of_ble_eq_true rfl) rfl dX7_rotate_329 (fun H locs hP hS => ?_)
    rw [← hσ118] at hP
    have hRσ118 : Rg σ118 := by rw [hσ118]; exact Rg_up hRσ37 g117
    rw [← hQQ]
    exact x_vretM hx hb hr (Option.some.inj hf) hRσ118 hP hS hlocks dX7_rotate_332
  · replace hf := (if_neg c124).symm.trans hf
    refine lv_aload_n hx hb dX7_rotate_314 rfl (lv_at hl 0 rfl) ?_
    refine x_get (C := RX7) (T := TX7) (NF := 17) (v := .int (iN (σ37 0 10))) hx hb hts iX7 hown hK hP 0 (by decide) (mE_0 cI a (_)) rfl 10 (by decide) fl102 rfl dX7_rotate_315 ?_
    refine lv_bipush (v := iN 63) hx hb dX7_rotate_318 (by decide) ?_
    refine x_icmp_ge (tgt := 327) hx hb (hRσ37 0 10) (by decide) dX7_rotate_320 (by decide) (fun c123 => ?_) (fun c123 => ?_)
    · replace hf := (if_neg c123).symm.trans hf
      refine lv_iconst (v := iN 0) hx hb dX7_rotate_327 rfl ?_
      obtain ⟨g119, hf⟩ := gd hf
      refine x_iadd hx hb dX7_rotate_328 ?_
      obtain ⟨σ120, hσ120, hf⟩ := nxe hf
      refine x_put (C := RX7) (T := TX7) (NF := 17) (x := ((σ37 0 10) + 0)) (ty := .int) hx hb hts iX7 tyX7 tyX7_ok nmX7 hi hown hK hP hS 0 (by decide) (mE_0 cI a (_)) rfl 10 10 (by decide) fl102 rfl (by decide +kernel) rfl rfl (Nat.le_of_ble_eq_true rfl) rfl dX7_rotate_329 (fun H locs hP hS => ?_)
      rw [← hσ120] at hP
      have hRσ120 : Rg σ120 := by rw [hσ120]; exact Rg_up hRσ37 g119
      rw [← hQQ]
      exact x_vretM hx hb hr (Option.some.inj hf) hRσ120 hP hS hlocks dX7_rotate_332
    · replace hf := (if_pos c123).symm.trans hf
      refine lv_iconst (v := iN 1) hx hb dX7_rotate_323 rfl ?_
      refine lv_goto (tgt := 328) hx hb dX7_rotate_324 (by decide) ?_
      obtain ⟨g121, hf⟩ := gd hf
      refine x_iadd hx hb dX7_rotate_328 ?_
      obtain ⟨σ122, hσ122, hf⟩ := nxe hf
      refine x_put (C := RX7) (T := TX7) (NF := 17) (x := ((σ37 0 10) + 1)) (ty := .int) hx hb hts iX7 tyX7 tyX7_ok nmX7 hi hown hK hP hS 0 (by decide) (mE_0 cI a (_)) rfl 10 10 (by decide) fl102 rfl (by decide +kernel) rfl rfl (Nat.le_of_ble_eq_true rfl) rfl dX7_rotate_329 (fun H locs hP hS => ?_)
      rw [← hσ122] at hP
      have hRσ122 : Rg σ122 := by rw [hσ122]; exact Rg_up hRσ37 g121
      rw [← hQQ]
      exact x_vretM hx hb hr (Option.some.inj hf) hRσ122 hP hS hlocks dX7_rotate_332
