def fX7_isBlocking_0_4_L91 (σ : Mem) (x2 : Int) (x3 : Int) (x4 : Int) (ex0 : Int → Int → Option Int) : Nat → Int → Int → Option Int
  | 0, _, _ => none
  | n0 + 1, v8, v9 => if v9 < (σ 0 1) then if v8 = 0 then if rng (x2 + v9) then if (0 : Int) ≤ (x2 + v9) ∧ ((x2 + v9) : Int) < 6 then if (σ 4 (x2 + v9)) = x4 then (fX7_place_0 σ 1 x4 x3).bind fun v14 => (fX7_place_0 σ 1 x4 v9).bind fun v15 => if v14 < v15 then if rng (v9 + 1) then fX7_isBlocking_0_4_L91 σ x2 x3 x4 ex0 n0 1 (v9 + 1) else none else if rng (v9 + 1) then fX7_isBlocking_0_4_L91 σ x2 x3 x4 ex0 n0 0 (v9 + 1) else none else if rng (v9 + 1) then fX7_isBlocking_0_4_L91 σ x2 x3 x4 ex0 n0 0 (v9 + 1) else none else none else none else if rng (v9 + 1) then fX7_isBlocking_0_4_L91 σ x2 x3 x4 ex0 n0 1 (v9 + 1) else none else ex0 v8 v9
def fX7_isBlocking_0_4 (σ : Mem) (x2 : Int) (x3 : Int) (x4 : Int) : Option Int := (fX7_isPair_0 σ x3 x4).bind fun v1 => if v1 = 0 then some 0 else if rng (x2 + x3) then if (0 : Int) ≤ (x2 + x3) ∧ ((x2 + x3) : Int) < 6 then if (σ 4 (x2 + x3)) = x4 then some 0 else if rng (x2 + x3) then if (0 : Int) ≤ (x2 + x3) ∧ ((x2 + x3) : Int) < 6 then if (σ 4 (x2 + x3)) = (-1) then (fX7_taken_4 σ x2 (σ 0 1) x4).bind fun v6 => if (0 : Int) ≤ x4 ∧ (x4 : Int) < 6 then if v6 < (σ 1 x4) then fX7_isBlocking_0_4_L91 σ x2 x3 x4 (fun v40 v41 => if v40 = 0 then some 0 else some 1) FU 1 0 else fX7_isBlocking_0_4_L91 σ x2 x3 x4 (fun v22 v23 => if v22 = 0 then some 0 else some 1) FU 0 0 else none else (fX7_place_0 σ 0 x3 x4).bind fun v45 => if rng (x2 + x3) then if (0 : Int) ≤ (x2 + x3) ∧ ((x2 + x3) : Int) < 6 then (fX7_place_0 σ 0 x3 (σ 4 (x2 + x3))).bind fun v48 => if v45 < v48 then (fX7_taken_4 σ x2 (σ 0 1) x4).bind fun v86 => if (0 : Int) ≤ x4 ∧ (x4 : Int) < 6 then if v86 < (σ 1 x4) then fX7_isBlocking_0_4_L91 σ x2 x3 x4 (fun v120 v121 => if v120 = 0 then some 0 else some 1) FU 1 0 else fX7_isBlocking_0_4_L91 σ x2 x3 x4 (fun v102 v103 => if v102 = 0 then some 0 else some 1) FU 0 0 else none else (fX7_taken_4 σ x2 (σ 0 1) x4).bind fun v49 => if (0 : Int) ≤ x4 ∧ (x4 : Int) < 6 then if v49 < (σ 1 x4) then fX7_isBlocking_0_4_L91 σ x2 x3 x4 (fun v82 v83 => some 0) FU 1 0 else fX7_isBlocking_0_4_L91 σ x2 x3 x4 (fun v65 v66 => some 0) FU 0 0 else none else none else none else none else none else none else none
set_option maxHeartbeats 4000000 in
set_option maxRecDepth 100000 in
theorem kX7_isBlocking_0_4 (l : Launch) (dC : Nat → ClassId) (dI : Nat → Nat → Nat) (cI : ClassId) (a : Nat → Nat) (σ : Mem) (x2 : Int) (x3 : Int) (x4 : Int) (r : Int) (hf : fX7_isBlocking_0_4 σ x2 x3 x4 = some r) (hR : Rg σ) (rx2 : rng x2) (rx3 : rng x3) (rx4 : rng x4) : Met l yX7_isBlocking wsX7_isBlocking ({ frames := 2, cells := 0, slots := 0, locals := 47 }) (va_Pc [.ref (a 0), .ref (a 4), .int (iN x2), .int (iN x3), .int (iN x4)] (preM dC dI cI a σ)) (qP r) 0 0 (fun _ => False) := by
  refine Met.ofW (cc := cX7_isBlocking) (maxL := 8) (ret := (some .boolean)) (by decide) rfl ?_
  intro p e s m args below meth c s₁ B hml hv
  obtain ⟨hargs, hP, hK⟩ := hv
  have hx := B.exec
  have hb := B.bytes
  have hr := B.returns
  have hts := atoms_spec (ws := wsX7_isBlocking) B.pre
  have hown : s.vm.findClass RX7 = some m.cls := findClass_of_methodNamed B.named
  have hlocks := B.notSynchronized
  have iX7 : ∀ w ∈ wsX70, w ∈ wsX7_isBlocking := by decide +kernel
  have fl16 := hts (.fieldLink RX7 16 "MatchHallModel" "seats" "[I") (by decide +kernel)
  have fl7 := hts (.fieldLink RX7 7 "MatchHallModel" "residents" "I") (by decide +kernel)
  have hrm : 2 ≤ (headSpec wsX7_isBlocking ({ frames := 2, cells := 0, slots := 0, locals := 47 })).room.frames ∧ 47 ≤ (headSpec wsX7_isBlocking ({ frames := 2, cells := 0, slots := 0, locals := 47 })).room.locals := ⟨Nat.le_refl _, Nat.le_refl _⟩
  generalize (headSpec wsX7_isBlocking ({ frames := 2, cells := 0, slots := 0, locals := 47 })).room = RR at hrm ⊢
  have hl := lv_entry ([.ref (a 0), .ref (a 4), .int (iN x2), .int (iN x3), .int (iN x4)]) (n := 8) (Nat.le_of_ble_eq_true rfl)
  rw [show entryFrame m args 8 = entryFrame m ([.ref (a 0), .ref (a 4), .int (iN x2), .int (iN x3), .int (iN x4)] : List Value).toArray 8 from by rw [hargs], lg_entry_eq]
  generalize (lg_sl ([.ref (a 0), .ref (a 4), .int (iN x2), .int (iN x3), .int (iN x4)]) ++ List.replicate (8 - (lg_sl ([.ref (a 0), .ref (a 4), .int (iN x2), .int (iN x3), .int (iN x4)])).length) Slot.unset).toArray = ls at hl ⊢
  have hl : lv_has ls 8 [(0, .ref (a 0)), (1, .ref (a 4)), (2, .int (iN x2)), (3, .int (iN x3)), (4, .int (iN x4))] := hl
  generalize hQQ : MQ below (qP r) args s 0 0 (fun _ => False) = QQ
  refine lv_aload_n hx hb dX7_isBlocking_0 rfl (lv_at hl 0 rfl) ?_
  refine lv_iload_n hx hb dX7_isBlocking_1 rfl (lv_at hl 3 rfl) ?_
  refine lv_iload hx hb dX7_isBlocking_2 (lv_at hl 4 rfl) ?_
  obtain ⟨v1, hv1, hf⟩ := bd hf
  refine x_callP (va_runV (As := [.int (iN x3), .int (iN x4)]) (rest := []) ⟨hx, hb, hml, hown, hts⟩ (kX7_isPair_0 l dC dI cI a σ x3 x4 v1 hv1 hR rx3 rx4) (cwV 2 hts gX7_isBlocking_X7_isPair rfl rfl rfl hX7_isPair_d ⟨Nat.le_trans (by decide) hrm.1, Nat.le_trans (by decide) hrm.2⟩) (pvM 0 (by decide) (mE_0 cI a (_)) rfl hP hK) rfl rfl hl.1 rfl (lv_room (Nat.le_of_ble_eq_true rfl)) dX7_isBlocking_4 ⟨Nat.zero_le _, Nat.zero_le _⟩) (fun rv1 => ?_)
  refine x_if_eq (tgt := 20) hx hb rv1 dX7_isBlocking_7 (by decide) (fun c128 => ?_) (fun c128 => ?_)
  · replace hf := (if_pos c128).symm.trans hf
    refine lv_iconst (v := iN 0) hx hb dX7_isBlocking_20 rfl ?_
    rw [← hQQ]
    exact x_zret hx hb hr (by decide) (Option.some.inj hf) (by decide) hlocks dX7_isBlocking_21
  · replace hf := (if_neg c128).symm.trans hf
    refine lv_aload_n hx hb dX7_isBlocking_10 rfl (lv_at hl 1 rfl) ?_
    refine lv_iload_n hx hb dX7_isBlocking_11 rfl (lv_at hl 2 rfl) ?_
    refine lv_iload_n hx hb dX7_isBlocking_12 rfl (lv_at hl 3 rfl) ?_
    obtain ⟨g2, hf⟩ := gd hf
    refine x_iadd hx hb dX7_isBlocking_13 ?_
    obtain ⟨g3, hf⟩ := gd hf
    refine x_iald hx hb hK hP 4 0 (by decide) (mE_4 cI a (_)) (by decide) rfl g3 dX7_isBlocking_14 ?_
    refine lv_iload hx hb dX7_isBlocking_15 (lv_at hl 4 rfl) ?_
    refine x_icmp_ne (tgt := 22) hx hb (hR 4 (x2 + x3)) rx4 dX7_isBlocking_17 (by decide) (fun c127 => ?_) (fun c127 => ?_)
    · replace hf := (if_neg c127).symm.trans hf
      refine lv_aload_n hx hb dX7_isBlocking_22 rfl (lv_at hl 1 rfl) ?_
      refine lv_iload_n hx hb dX7_isBlocking_23 rfl (lv_at hl 2 rfl) ?_
      refine lv_iload_n hx hb dX7_isBlocking_24 rfl (lv_at hl 3 rfl) ?_
      obtain ⟨g4, hf⟩ := gd hf
      refine x_iadd hx hb dX7_isBlocking_25 ?_
      obtain ⟨g5, hf⟩ := gd hf
      refine x_iald hx hb hK hP 4 0 (by decide) (mE_4 cI a (_)) (by decide) rfl g5 dX7_isBlocking_26 ?_
      refine lv_iconst (v := iN (-1)) hx hb dX7_isBlocking_27 rfl ?_
      refine x_icmp_eq (tgt := 53) hx hb (hR 4 (x2 + x3)) (by decide) dX7_isBlocking_28 (by decide) (fun c126 => ?_) (fun c126 => ?_)
      · replace hf := (if_pos c126).symm.trans hf
        refine lv_iconst (v := iN 1) hx hb dX7_isBlocking_53 rfl ?_
        refine lv_goto (tgt := 58) hx hb dX7_isBlocking_54 (by decide) ?_
        refine lv_istore (lv' := [(5, .int (iN 1)), (0, .ref (a 0)), (1, .ref (a 4)), (2, .int (iN x2)), (3, .int (iN x3)), (4, .int (iN x4))]) hx hb dX7_isBlocking_58 hl (by decide) rfl (fun ls hl => ?_)
        refine lv_aload_n hx hb dX7_isBlocking_60 rfl (lv_at hl 2 rfl) ?_
        refine lv_iload_n hx hb dX7_isBlocking_61 rfl (lv_at hl 3 rfl) ?_
        refine lv_aload_n hx hb dX7_isBlocking_62 rfl (lv_at hl 1 rfl) ?_
        refine x_get (C := RX7) (T := TX7) (NF := 17) (v := .int (iN (σ 0 1))) hx hb hts iX7 hown hK hP 0 (by decide) (mE_0 cI a (_)) rfl 1 (by decide) fl7 rfl dX7_isBlocking_63 ?_
        refine lv_iload hx hb dX7_isBlocking_66 (lv_at hl 5 rfl) ?_
        obtain ⟨v6, hv6, hf⟩ := bd hf
        refine x_callP (va_runS (As := [.ref (a 4), .int (iN x2), .int (iN (σ 0 1)), .int (iN x4)]) (rest := []) ⟨hx, hb, hml, hown, hts⟩ (kX7_taken_4 l dC dI cI a σ x2 (σ 0 1) x4 v6 hv6 hR rx2 (hR 0 1) rx4) (va_cwS 4 hts gX7_isBlocking_X7_taken rfl rfl rfl hX7_taken_d ⟨Nat.le_trans (by decide) hrm.1, Nat.le_trans (by decide) hrm.2⟩) (psM hP hK) rfl rfl hl.1 rfl (lv_room (Nat.le_of_ble_eq_true rfl)) dX7_isBlocking_68 ⟨Nat.zero_le _, Nat.zero_le _⟩) (fun rv6 => ?_)
        refine lv_aload_n hx hb dX7_isBlocking_71 rfl (lv_at hl 1 rfl) ?_
        refine x_get (C := RX7) (T := TX7) (NF := 17) (v := .ref (a 1)) hx hb hts iX7 hown hK hP 0 (by decide) (mE_0 cI a (_)) rfl 3 (by decide) fl16 rfl dX7_isBlocking_72 ?_
        refine lv_iload hx hb dX7_isBlocking_75 (lv_at hl 5 rfl) ?_
        obtain ⟨g7, hf⟩ := gd hf
        refine x_iald hx hb hK hP 1 0 (by decide) (mE_1 cI a (_)) (by decide) rfl g7 dX7_isBlocking_77 ?_
        refine x_icmp_ge (tgt := 85) hx hb rv6 (hR 1 x4) dX7_isBlocking_78 (by decide) (fun c44 => ?_) (fun c44 => ?_)
        · replace hf := (if_neg c44).symm.trans hf
          refine lv_iconst (v := iN 0) hx hb dX7_isBlocking_85 rfl ?_
          refine lv_istore (lv' := [(6, .int (iN 0)), (5, .int (iN 1)), (0, .ref (a 0)), (1, .ref (a 4)), (2, .int (iN x2)), (3, .int (iN x3)), (4, .int (iN x4))]) hx hb dX7_isBlocking_86 hl (by decide) rfl (fun ls hl => ?_)
          refine lv_iconst (v := iN 0) hx hb dX7_isBlocking_88 rfl ?_
          refine lv_istore (lv' := [(7, .int (iN 0)), (6, .int (iN 0)), (5, .int (iN 1)), (0, .ref (a 0)), (1, .ref (a 4)), (2, .int (iN x2)), (3, .int (iN x3)), (4, .int (iN x4))]) hx hb dX7_isBlocking_89 hl (by decide) rfl (fun ls hl => ?_)
          have L_fX7_isBlocking_0_4_L91 : ∀ (EX0 : Int → Int → Option Int), (∀ (v8 : Int) (v9 : Int), rng v8 → rng v9 → EX0 v8 v9 = some r → ∀ ls, lv_has ls 8 [(0, .ref (a 0)), (1, .ref (a 4)), (2, .int (iN x2)), (3, .int (iN x3)), (4, .int (iN x4)), (5, .int (iN 1)), (6, .int (iN v8)), (7, .int (iN v9))] → W p l e RR s m args below meth c s.heap [] 0 0 QQ (F0 m 149 ls [])) → ∀ n0 : Nat, ∀ (v8 : Int) (v9 : Int), rng v8 → rng v9 → fX7_isBlocking_0_4_L91 σ x2 x3 x4 EX0 n0 v8 v9 = some r → ∀ ls, lv_has ls 8 [(0, .ref (a 0)), (1, .ref (a 4)), (2, .int (iN x2)), (3, .int (iN x3)), (4, .int (iN x4)), (5, .int (iN 1)), (6, .int (iN v8)), (7, .int (iN v9))] → W p l e RR s m args below meth c s.heap [] 0 0 QQ (F0 m 91 ls []) := by
            intro EX0 hEX0 n0
            induction n0 with
            | zero => intro _ _ _ _ hf; cases hf
            | succ n0 ih0 =>
              intro v8 v9 rv8 rv9 hf ls hl
              rw [fX7_isBlocking_0_4_L91] at hf
              refine lv_iload hx hb dX7_isBlocking_91 (lv_at hl 7 rfl) ?_
              refine lv_aload_n hx hb dX7_isBlocking_93 rfl (lv_at hl 0 rfl) ?_
              refine x_get (C := RX7) (T := TX7) (NF := 17) (v := .int (iN (σ 0 1))) hx hb hts iX7 hown hK hP 0 (by decide) (mE_0 cI a (_)) rfl 1 (by decide) fl7 rfl dX7_isBlocking_94 ?_
              refine x_icmp_ge (tgt := 149) hx hb rv9 (hR 0 1) dX7_isBlocking_97 (by decide) (fun c21 => ?_) (fun c21 => ?_)
              · replace hf := (if_neg c21).symm.trans hf
                exact hEX0 _ _ rv8 rv9 hf _ (lv_sub hl [0, 1, 2, 3, 4, 5, 6, 7] rfl)
              · replace hf := (if_pos c21).symm.trans hf
                refine lv_iload hx hb dX7_isBlocking_100 (lv_at hl 6 rfl) ?_
                refine x_if_ne (tgt := 136) hx hb rv8 dX7_isBlocking_102 (by decide) (fun c20 => ?_) (fun c20 => ?_)
                · replace hf := (if_neg c20).symm.trans hf
                  refine lv_iconst (v := iN 1) hx hb dX7_isBlocking_136 rfl ?_
                  refine lv_goto (tgt := 141) hx hb dX7_isBlocking_137 (by decide) ?_
                  refine lv_istore (lv' := [(6, .int (iN 1)), (0, .ref (a 0)), (1, .ref (a 4)), (2, .int (iN x2)), (3, .int (iN x3)), (4, .int (iN x4)), (5, .int (iN 1)), (7, .int (iN v9))]) hx hb dX7_isBlocking_141 hl (by decide) rfl (fun ls hl => ?_)
                  obtain ⟨g10, hf⟩ := gd hf
                  refine lv_iinc (v := iN (v9 + 1)) (lv' := [(7, .int (iN (v9 + 1))), (6, .int (iN 1)), (0, .ref (a 0)), (1, .ref (a 4)), (2, .int (iN x2)), (3, .int (iN x3)), (4, .int (iN x4)), (5, .int (iN 1))]) hx hb dX7_isBlocking_143 hl (k := 7) rfl (iN_add v9 1) (by decide) rfl (fun ls hl => ?_)
                  refine lv_goto (tgt := 91) hx hb dX7_isBlocking_146 (by decide) ?_
                  exact ih0 _ _ (by decide) g10 hf _ (lv_sub hl [2, 3, 4, 5, 6, 7, 1, 0] rfl)
                · replace hf := (if_pos c20).symm.trans hf
                  refine lv_aload_n hx hb dX7_isBlocking_105 rfl (lv_at hl 1 rfl) ?_
                  refine lv_iload_n hx hb dX7_isBlocking_106 rfl (lv_at hl 2 rfl) ?_
                  refine lv_iload hx hb dX7_isBlocking_107 (lv_at hl 7 rfl) ?_
                  obtain ⟨g11, hf⟩ := gd hf
                  refine x_iadd hx hb dX7_isBlocking_109 ?_
                  obtain ⟨g12, hf⟩ := gd hf
                  refine x_iald hx hb hK hP 4 0 (by decide) (mE_4 cI a (_)) (by decide) rfl g12 dX7_isBlocking_110 ?_
                  refine lv_iload hx hb dX7_isBlocking_111 (lv_at hl 4 rfl) ?_
                  refine x_icmp_ne (tgt := 140) hx hb (hR 4 (x2 + v9)) rx4 dX7_isBlocking_113 (by decide) (fun c19 => ?_) (fun c19 => ?_)
                  · replace hf := (if_neg c19).symm.trans hf
                    refine lv_iconst (v := iN 0) hx hb dX7_isBlocking_140 rfl ?_
                    refine lv_istore (lv' := [(6, .int (iN 0)), (0, .ref (a 0)), (1, .ref (a 4)), (2, .int (iN x2)), (3, .int (iN x3)), (4, .int (iN x4)), (5, .int (iN 1)), (7, .int (iN v9))]) hx hb dX7_isBlocking_141 hl (by decide) rfl (fun ls hl => ?_)
                    obtain ⟨g13, hf⟩ := gd hf
                    refine lv_iinc (v := iN (v9 + 1)) (lv' := [(7, .int (iN (v9 + 1))), (6, .int (iN 0)), (0, .ref (a 0)), (1, .ref (a 4)), (2, .int (iN x2)), (3, .int (iN x3)), (4, .int (iN x4)), (5, .int (iN 1))]) hx hb dX7_isBlocking_143 hl (k := 7) rfl (iN_add v9 1) (by decide) rfl (fun ls hl => ?_)
                    refine lv_goto (tgt := 91) hx hb dX7_isBlocking_146 (by decide) ?_
                    exact ih0 _ _ (by decide) g13 hf _ (lv_sub hl [2, 3, 4, 5, 6, 7, 1, 0] rfl)
                  · replace hf := (if_pos c19).symm.trans hf
                    refine lv_aload_n hx hb dX7_isBlocking_116 rfl (lv_at hl 0 rfl) ?_
                    refine lv_iconst (v := iN 1) hx hb dX7_isBlocking_117 rfl ?_
                    refine lv_iload hx hb dX7_isBlocking_118 (lv_at hl 4 rfl) ?_
                    refine lv_iload_n hx hb dX7_isBlocking_120 rfl (lv_at hl 3 rfl) ?_
                    obtain ⟨v14, hv14, hf⟩ := bd hf
                    refine x_callP (va_runV (As := [.int (iN 1), .int (iN x4), .int (iN x3)]) (rest := []) ⟨hx, hb, hml, hown, hts⟩ (kX7_place_0 l dC dI cI a σ 1 x4 x3 v14 hv14 hR (by decide) rx4 rx3) (cwV 3 hts gX7_isBlocking_X7_place rfl rfl rfl hX7_place_d ⟨Nat.le_trans (by decide) hrm.1, Nat.le_trans (by decide) hrm.2⟩) (pvM 0 (by decide) (mE_0 cI a (_)) rfl hP hK) rfl rfl hl.1 rfl (lv_room (Nat.le_of_ble_eq_true rfl)) dX7_isBlocking_121 ⟨Nat.zero_le _, Nat.zero_le _⟩) (fun rv14 => ?_)
                    refine lv_aload_n hx hb dX7_isBlocking_124 rfl (lv_at hl 0 rfl) ?_
                    refine lv_iconst (v := iN 1) hx hb dX7_isBlocking_125 rfl ?_
                    refine lv_iload hx hb dX7_isBlocking_126 (lv_at hl 4 rfl) ?_
                    refine lv_iload hx hb dX7_isBlocking_128 (lv_at hl 7 rfl) ?_
                    obtain ⟨v15, hv15, hf⟩ := bd hf
                    refine x_callP (va_runV (As := [.int (iN 1), .int (iN x4), .int (iN v9)]) (rest := [.int (iN v14)]) ⟨hx, hb, hml, hown, hts⟩ (kX7_place_0 l dC dI cI a σ 1 x4 v9 v15 hv15 hR (by decide) rx4 rv9) (cwV 3 hts gX7_isBlocking_X7_place rfl rfl rfl hX7_place_d ⟨Nat.le_trans (by decide) hrm.1, Nat.le_trans (by decide) hrm.2⟩) (pvM 0 (by decide) (mE_0 cI a (_)) rfl hP hK) rfl rfl hl.1 rfl (lv_room (Nat.le_of_ble_eq_true rfl)) dX7_isBlocking_130 ⟨Nat.zero_le _, Nat.zero_le _⟩) (fun rv15 => ?_)
                    refine x_icmp_ge (tgt := 140) hx hb rv14 rv15 dX7_isBlocking_133 (by decide) (fun c18 => ?_) (fun c18 => ?_)
                    · replace hf := (if_neg c18).symm.trans hf
                      refine lv_iconst (v := iN 0) hx hb dX7_isBlocking_140 rfl ?_
                      refine lv_istore (lv' := [(6, .int (iN 0)), (0, .ref (a 0)), (1, .ref (a 4)), (2, .int (iN x2)), (3, .int (iN x3)), (4, .int (iN x4)), (5, .int (iN 1)), (7, .int (iN v9))]) hx hb dX7_isBlocking_141 hl (by decide) rfl (fun ls hl => ?_)
                      obtain ⟨g16, hf⟩ := gd hf
                      refine lv_iinc (v := iN (v9 + 1)) (lv' := [(7, .int (iN (v9 + 1))), (6, .int (iN 0)), (0, .ref (a 0)), (1, .ref (a 4)), (2, .int (iN x2)), (3, .int (iN x3)), (4, .int (iN x4)), (5, .int (iN 1))]) hx hb dX7_isBlocking_143 hl (k := 7) rfl (iN_add v9 1) (by decide) rfl (fun ls hl => ?_)
                      refine lv_goto (tgt := 91) hx hb dX7_isBlocking_146 (by decide) ?_
                      exact ih0 _ _ (by decide) g16 hf _ (lv_sub hl [2, 3, 4, 5, 6, 7, 1, 0] rfl)
                    · replace hf := (if_pos c18).symm.trans hf
                      refine lv_iconst (v := iN 1) hx hb dX7_isBlocking_136 rfl ?_
                      refine lv_goto (tgt := 141) hx hb dX7_isBlocking_137 (by decide) ?_
                      refine lv_istore (lv' := [(6, .int (iN 1)), (0, .ref (a 0)), (1, .ref (a 4)), (2, .int (iN x2)), (3, .int (iN x3)), (4, .int (iN x4)), (5, .int (iN 1)), (7, .int (iN v9))]) hx hb dX7_isBlocking_141 hl (by decide) rfl (fun ls hl => ?_)
                      obtain ⟨g17, hf⟩ := gd hf
                      refine lv_iinc (v := iN (v9 + 1)) (lv' := [(7, .int (iN (v9 + 1))), (6, .int (iN 1)), (0, .ref (a 0)), (1, .ref (a 4)), (2, .int (iN x2)), (3, .int (iN x3)), (4, .int (iN x4)), (5, .int (iN 1))]) hx hb dX7_isBlocking_143 hl (k := 7) rfl (iN_add v9 1) (by decide) rfl (fun ls hl => ?_)
                      refine lv_goto (tgt := 91) hx hb dX7_isBlocking_146 (by decide) ?_
                      exact ih0 _ _ (by decide) g17 hf _ (lv_sub hl [2, 3, 4, 5, 6, 7, 1, 0] rfl)
          refine L_fX7_isBlocking_0_4_L91 _ (fun v22 v23 rv22 rv23 hf ls hl => ?_) _ _ _ (by decide) (by decide) hf _ (lv_sub hl [3, 4, 5, 6, 7, 2, 1, 0] rfl)
          refine lv_iload hx hb dX7_isBlocking_149 (lv_at hl 5 rfl) ?_
          refine x_if_eq (tgt := 163) hx hb (by decide) dX7_isBlocking_151 (by decide) (fun c25 => ?_) (fun c25 => ?_)
          · exact absurd c25 (by decide)
          · refine lv_iload hx hb dX7_isBlocking_154 (lv_at hl 6 rfl) ?_
            refine x_if_eq (tgt := 163) hx hb rv22 dX7_isBlocking_156 (by decide) (fun c24 => ?_) (fun c24 => ?_)
            · replace hf := (if_pos c24).symm.trans hf
              refine lv_iconst (v := iN 0) hx hb dX7_isBlocking_163 rfl ?_
              rw [← hQQ]
              exact x_zret hx hb hr (by decide) (Option.some.inj hf) (by decide) hlocks dX7_isBlocking_164
            · replace hf := (if_neg c24).symm.trans hf
              refine lv_iconst (v := iN 1) hx hb dX7_isBlocking_159 rfl ?_
              refine lv_goto (tgt := 164) hx hb dX7_isBlocking_160 (by decide) ?_
              rw [← hQQ]
              exact x_zret hx hb hr (by decide) (Option.some.inj hf) (by decide) hlocks dX7_isBlocking_164
        · replace hf := (if_pos c44).symm.trans hf
          refine lv_iconst (v := iN 1) hx hb dX7_isBlocking_81 rfl ?_
          refine lv_goto (tgt := 86) hx hb dX7_isBlocking_82 (by decide) ?_
          refine lv_istore (lv' := [(6, .int (iN 1)), (5, .int (iN 1)), (0, .ref (a 0)), (1, .ref (a 4)), (2, .int (iN x2)), (3, .int (iN x3)), (4, .int (iN x4))]) hx hb dX7_isBlocking_86 hl (by decide) rfl (fun ls hl => ?_)
          refine lv_iconst (v := iN 0) hx hb dX7_isBlocking_88 rfl ?_
          refine lv_istore (lv' := [(7, .int (iN 0)), (6, .int (iN 1)), (5, .int (iN 1)), (0, .ref (a 0)), (1, .ref (a 4)), (2, .int (iN x2)), (3, .int (iN x3)), (4, .int (iN x4))]) hx hb dX7_isBlocking_89 hl (by decide) rfl (fun ls hl => ?_)
          have L_fX7_isBlocking_0_4_L91_2 : ∀ (EX0 : Int → Int → Option Int), (∀ (v26 : Int) (v27 : Int), rng v26 → rng v27 → EX0 v26 v27 = some r → ∀ ls, lv_has ls 8 [(0, .ref (a 0)), (1, .ref (a 4)), (2, .int (iN x2)), (3, .int (iN x3)), (4, .int (iN x4)), (5, .int (iN 1)), (6, .int (iN v26)), (7, .int (iN v27))] → W p l e RR s m args below meth c s.heap [] 0 0 QQ (F0 m 149 ls [])) → ∀ n0 : Nat, ∀ (v26 : Int) (v27 : Int), rng v26 → rng v27 → fX7_isBlocking_0_4_L91 σ x2 x3 x4 EX0 n0 v26 v27 = some r → ∀ ls, lv_has ls 8 [(0, .ref (a 0)), (1, .ref (a 4)), (2, .int (iN x2)), (3, .int (iN x3)), (4, .int (iN x4)), (5, .int (iN 1)), (6, .int (iN v26)), (7, .int (iN v27))] → W p l e RR s m args below meth c s.heap [] 0 0 QQ (F0 m 91 ls []) := by
            intro EX0 hEX0 n0
            induction n0 with
            | zero => intro _ _ _ _ hf; cases hf
            | succ n0 ih0 =>
              intro v26 v27 rv26 rv27 hf ls hl
              rw [fX7_isBlocking_0_4_L91] at hf
              refine lv_iload hx hb dX7_isBlocking_91 (lv_at hl 7 rfl) ?_
              refine lv_aload_n hx hb dX7_isBlocking_93 rfl (lv_at hl 0 rfl) ?_
              refine x_get (C := RX7) (T := TX7) (NF := 17) (v := .int (iN (σ 0 1))) hx hb hts iX7 hown hK hP 0 (by decide) (mE_0 cI a (_)) rfl 1 (by decide) fl7 rfl dX7_isBlocking_94 ?_
              refine x_icmp_ge (tgt := 149) hx hb rv27 (hR 0 1) dX7_isBlocking_97 (by decide) (fun c39 => ?_) (fun c39 => ?_)
              · replace hf := (if_neg c39).symm.trans hf
                exact hEX0 _ _ rv26 rv27 hf _ (lv_sub hl [0, 1, 2, 3, 4, 5, 6, 7] rfl)
              · replace hf := (if_pos c39).symm.trans hf
                refine lv_iload hx hb dX7_isBlocking_100 (lv_at hl 6 rfl) ?_
                refine x_if_ne (tgt := 136) hx hb rv26 dX7_isBlocking_102 (by decide) (fun c38 => ?_) (fun c38 => ?_)
                · replace hf := (if_neg c38).symm.trans hf
                  refine lv_iconst (v := iN 1) hx hb dX7_isBlocking_136 rfl ?_
                  refine lv_goto (tgt := 141) hx hb dX7_isBlocking_137 (by decide) ?_
                  refine lv_istore (lv' := [(6, .int (iN 1)), (0, .ref (a 0)), (1, .ref (a 4)), (2, .int (iN x2)), (3, .int (iN x3)), (4, .int (iN x4)), (5, .int (iN 1)), (7, .int (iN v27))]) hx hb dX7_isBlocking_141 hl (by decide) rfl (fun ls hl => ?_)
                  obtain ⟨g28, hf⟩ := gd hf
                  refine lv_iinc (v := iN (v27 + 1)) (lv' := [(7, .int (iN (v27 + 1))), (6, .int (iN 1)), (0, .ref (a 0)), (1, .ref (a 4)), (2, .int (iN x2)), (3, .int (iN x3)), (4, .int (iN x4)), (5, .int (iN 1))]) hx hb dX7_isBlocking_143 hl (k := 7) rfl (iN_add v27 1) (by decide) rfl (fun ls hl => ?_)
                  refine lv_goto (tgt := 91) hx hb dX7_isBlocking_146 (by decide) ?_
                  exact ih0 _ _ (by decide) g28 hf _ (lv_sub hl [2, 3, 4, 5, 6, 7, 1, 0] rfl)
                · replace hf := (if_pos c38).symm.trans hf
                  refine lv_aload_n hx hb dX7_isBlocking_105 rfl (lv_at hl 1 rfl) ?_
                  refine lv_iload_n hx hb dX7_isBlocking_106 rfl (lv_at hl 2 rfl) ?_
                  refine lv_iload hx hb dX7_isBlocking_107 (lv_at hl 7 rfl) ?_
                  obtain ⟨g29, hf⟩ := gd hf
                  refine x_iadd hx hb dX7_isBlocking_109 ?_
                  obtain ⟨g30, hf⟩ := gd hf
                  refine x_iald hx hb hK hP 4 0 (by decide) (mE_4 cI a (_)) (by decide) rfl g30 dX7_isBlocking_110 ?_
                  refine lv_iload hx hb dX7_isBlocking_111 (lv_at hl 4 rfl) ?_
                  refine x_icmp_ne (tgt := 140) hx hb (hR 4 (x2 + v27)) rx4 dX7_isBlocking_113 (by decide) (fun c37 => ?_) (fun c37 => ?_)
                  · replace hf := (if_neg c37).symm.trans hf
                    refine lv_iconst (v := iN 0) hx hb dX7_isBlocking_140 rfl ?_
                    refine lv_istore (lv' := [(6, .int (iN 0)), (0, .ref (a 0)), (1, .ref (a 4)), (2, .int (iN x2)), (3, .int (iN x3)), (4, .int (iN x4)), (5, .int (iN 1)), (7, .int (iN v27))]) hx hb dX7_isBlocking_141 hl (by decide) rfl (fun ls hl => ?_)
                    obtain ⟨g31, hf⟩ := gd hf
                    refine lv_iinc (v := iN (v27 + 1)) (lv' := [(7, .int (iN (v27 + 1))), (6, .int (iN 0)), (0, .ref (a 0)), (1, .ref (a 4)), (2, .int (iN x2)), (3, .int (iN x3)), (4, .int (iN x4)), (5, .int (iN 1))]) hx hb dX7_isBlocking_143 hl (k := 7) rfl (iN_add v27 1) (by decide) rfl (fun ls hl => ?_)
                    refine lv_goto (tgt := 91) hx hb dX7_isBlocking_146 (by decide) ?_
                    exact ih0 _ _ (by decide) g31 hf _ (lv_sub hl [2, 3, 4, 5, 6, 7, 1, 0] rfl)
                  · replace hf := (if_pos c37).symm.trans hf
                    refine lv_aload_n hx hb dX7_isBlocking_116 rfl (lv_at hl 0 rfl) ?_
                    refine lv_iconst (v := iN 1) hx hb dX7_isBlocking_117 rfl ?_
                    refine lv_iload hx hb dX7_isBlocking_118 (lv_at hl 4 rfl) ?_
                    refine lv_iload_n hx hb dX7_isBlocking_120 rfl (lv_at hl 3 rfl) ?_
                    obtain ⟨v32, hv32, hf⟩ := bd hf
                    refine x_callP (va_runV (As := [.int (iN 1), .int (iN x4), .int (iN x3)]) (rest := []) ⟨hx, hb, hml, hown, hts⟩ (kX7_place_0 l dC dI cI a σ 1 x4 x3 v32 hv32 hR (by decide) rx4 rx3) (cwV 3 hts gX7_isBlocking_X7_place rfl rfl rfl hX7_place_d ⟨Nat.le_trans (by decide) hrm.1, Nat.le_trans (by decide) hrm.2⟩) (pvM 0 (by decide) (mE_0 cI a (_)) rfl hP hK) rfl rfl hl.1 rfl (lv_room (Nat.le_of_ble_eq_true rfl)) dX7_isBlocking_121 ⟨Nat.zero_le _, Nat.zero_le _⟩) (fun rv32 => ?_)
                    refine lv_aload_n hx hb dX7_isBlocking_124 rfl (lv_at hl 0 rfl) ?_
                    refine lv_iconst (v := iN 1) hx hb dX7_isBlocking_125 rfl ?_
                    refine lv_iload hx hb dX7_isBlocking_126 (lv_at hl 4 rfl) ?_
                    refine lv_iload hx hb dX7_isBlocking_128 (lv_at hl 7 rfl) ?_
                    obtain ⟨v33, hv33, hf⟩ := bd hf
                    refine x_callP (va_runV (As := [.int (iN 1), .int (iN x4), .int (iN v27)]) (rest := [.int (iN v32)]) ⟨hx, hb, hml, hown, hts⟩ (kX7_place_0 l dC dI cI a σ 1 x4 v27 v33 hv33 hR (by decide) rx4 rv27) (cwV 3 hts gX7_isBlocking_X7_place rfl rfl rfl hX7_place_d ⟨Nat.le_trans (by decide) hrm.1, Nat.le_trans (by decide) hrm.2⟩) (pvM 0 (by decide) (mE_0 cI a (_)) rfl hP hK) rfl rfl hl.1 rfl (lv_room (Nat.le_of_ble_eq_true rfl)) dX7_isBlocking_130 ⟨Nat.zero_le _, Nat.zero_le _⟩) (fun rv33 => ?_)
                    refine x_icmp_ge (tgt := 140) hx hb rv32 rv33 dX7_isBlocking_133 (by decide) (fun c36 => ?_) (fun c36 => ?_)
                    · replace hf := (if_neg c36).symm.trans hf
                      refine lv_iconst (v := iN 0) hx hb dX7_isBlocking_140 rfl ?_
                      refine lv_istore (lv' := [(6, .int (iN 0)), (0, .ref (a 0)), (1, .ref (a 4)), (2, .int (iN x2)), (3, .int (iN x3)), (4, .int (iN x4)), (5, .int (iN 1)), (7, .int (iN v27))]) hx hb dX7_isBlocking_141 hl (by decide) rfl (fun ls hl => ?_)
                      obtain ⟨g34, hf⟩ := gd hf
                      refine lv_iinc (v := iN (v27 + 1)) (lv' := [(7, .int (iN (v27 + 1))), (6, .int (iN 0)), (0, .ref (a 0)), (1, .ref (a 4)), (2, .int (iN x2)), (3, .int (iN x3)), (4, .int (iN x4)), (5, .int (iN 1))]) hx hb dX7_isBlocking_143 hl (k := 7) rfl (iN_add v27 1) (by decide) rfl (fun ls hl => ?_)
                      refine lv_goto (tgt := 91) hx hb dX7_isBlocking_146 (by decide) ?_
                      exact ih0 _ _ (by decide) g34 hf _ (lv_sub hl [2, 3, 4, 5, 6, 7, 1, 0] rfl)
                    · replace hf := (if_pos c36).symm.trans hf
                      refine lv_iconst (v := iN 1) hx hb dX7_isBlocking_136 rfl ?_
                      refine lv_goto (tgt := 141) hx hb dX7_isBlocking_137 (by decide) ?_
                      refine lv_istore (lv' := [(6, .int (iN 1)), (0, .ref (a 0)), (1, .ref (a 4)), (2, .int (iN x2)), (3, .int (iN x3)), (4, .int (iN x4)), (5, .int (iN 1)), (7, .int (iN v27))]) hx hb dX7_isBlocking_141 hl (by decide) rfl (fun ls hl => ?_)
                      obtain ⟨g35, hf⟩ := gd hf
                      refine lv_iinc (v := iN (v27 + 1)) (lv' := [(7, .int (iN (v27 + 1))), (6, .int (iN 1)), (0, .ref (a 0)), (1, .ref (a 4)), (2, .int (iN x2)), (3, .int (iN x3)), (4, .int (iN x4)), (5, .int (iN 1))]) hx hb dX7_isBlocking_143 hl (k := 7) rfl (iN_add v27 1) (by decide) rfl (fun ls hl => ?_)
                      refine lv_goto (tgt := 91) hx hb dX7_isBlocking_146 (by decide) ?_
                      exact ih0 _ _ (by decide) g35 hf _ (lv_sub hl [2, 3, 4, 5, 6, 7, 1, 0] rfl)
          refine L_fX7_isBlocking_0_4_L91_2 _ (fun v40 v41 rv40 rv41 hf ls hl => ?_) _ _ _ (by decide) (by decide) hf _ (lv_sub hl [3, 4, 5, 6, 7, 2, 1, 0] rfl)
          refine lv_iload hx hb dX7_isBlocking_149 (lv_at hl 5 rfl) ?_
          refine x_if_eq (tgt := 163) hx hb (by decide) dX7_isBlocking_151 (by decide) (fun c43 => ?_) (fun c43 => ?_)
          · exact absurd c43 (by decide)
          · refine lv_iload hx hb dX7_isBlocking_154 (lv_at hl 6 rfl) ?_
            refine x_if_eq (tgt := 163) hx hb rv40 dX7_isBlocking_156 (by decide) (fun c42 => ?_) (fun c42 => ?_)
            · replace hf := (if_pos c42).symm.trans hf
              refine lv_iconst (v := iN 0) hx hb dX7_isBlocking_163 rfl ?_
              rw [← hQQ]
              exact x_zret hx hb hr (by decide) (Option.some.inj hf) (by decide) hlocks dX7_isBlocking_164
            · replace hf := (if_neg c42).symm.trans hf
              refine lv_iconst (v := iN 1) hx hb dX7_isBlocking_159 rfl ?_
              refine lv_goto (tgt := 164) hx hb dX7_isBlocking_160 (by decide) ?_
              rw [← hQQ]
              exact x_zret hx hb hr (by decide) (Option.some.inj hf) (by decide) hlocks dX7_isBlocking_164
      · replace hf := (if_neg c126).symm.trans hf
        refine lv_aload_n hx hb dX7_isBlocking_31 rfl (lv_at hl 0 rfl) ?_
        refine lv_iconst (v := iN 0) hx hb dX7_isBlocking_32 rfl ?_
        refine lv_iload_n hx hb dX7_isBlocking_33 rfl (lv_at hl 3 rfl) ?_
        refine lv_iload hx hb dX7_isBlocking_34 (lv_at hl 4 rfl) ?_
        obtain ⟨v45, hv45, hf⟩ := bd hf
        refine x_callP (va_runV (As := [.int (iN 0), .int (iN x3), .int (iN x4)]) (rest := []) ⟨hx, hb, hml, hown, hts⟩ (kX7_place_0 l dC dI cI a σ 0 x3 x4 v45 hv45 hR (by decide) rx3 rx4) (cwV 3 hts gX7_isBlocking_X7_place rfl rfl rfl hX7_place_d ⟨Nat.le_trans (by decide) hrm.1, Nat.le_trans (by decide) hrm.2⟩) (pvM 0 (by decide) (mE_0 cI a (_)) rfl hP hK) rfl rfl hl.1 rfl (lv_room (Nat.le_of_ble_eq_true rfl)) dX7_isBlocking_36 ⟨Nat.zero_le _, Nat.zero_le _⟩) (fun rv45 => ?_)
        refine lv_aload_n hx hb dX7_isBlocking_39 rfl (lv_at hl 0 rfl) ?_
        refine lv_iconst (v := iN 0) hx hb dX7_isBlocking_40 rfl ?_
        refine lv_iload_n hx hb dX7_isBlocking_41 rfl (lv_at hl 3 rfl) ?_
        refine lv_aload_n hx hb dX7_isBlocking_42 rfl (lv_at hl 1 rfl) ?_
        refine lv_iload_n hx hb dX7_isBlocking_43 rfl (lv_at hl 2 rfl) ?_
        refine lv_iload_n hx hb dX7_isBlocking_44 rfl (lv_at hl 3 rfl) ?_
        obtain ⟨g46, hf⟩ := gd hf
        refine x_iadd hx hb dX7_isBlocking_45 ?_
        obtain ⟨g47, hf⟩ := gd hf
        refine x_iald hx hb hK hP 4 0 (by decide) (mE_4 cI a (_)) (by decide) rfl g47 dX7_isBlocking_46 ?_
        obtain ⟨v48, hv48, hf⟩ := bd hf
        refine x_callP (va_runV (As := [.int (iN 0), .int (iN x3), .int (iN (σ 4 (x2 + x3)))]) (rest := [.int (iN v45)]) ⟨hx, hb, hml, hown, hts⟩ (kX7_place_0 l dC dI cI a σ 0 x3 (σ 4 (x2 + x3)) v48 hv48 hR (by decide) rx3 (hR 4 (x2 + x3))) (cwV 3 hts gX7_isBlocking_X7_place rfl rfl rfl hX7_place_d ⟨Nat.le_trans (by decide) hrm.1, Nat.le_trans (by decide) hrm.2⟩) (pvM 0 (by decide) (mE_0 cI a (_)) rfl hP hK) rfl rfl hl.1 rfl (lv_room (Nat.le_of_ble_eq_true rfl)) dX7_isBlocking_47 ⟨Nat.zero_le _, Nat.zero_le _⟩) (fun rv48 => ?_)
        refine x_icmp_ge (tgt := 57) hx hb rv45 rv48 dX7_isBlocking_50 (by decide) (fun c125 => ?_) (fun c125 => ?_)
        · replace hf := (if_neg c125).symm.trans hf
          refine lv_iconst (v := iN 0) hx hb dX7_isBlocking_57 rfl ?_
          refine lv_istore (lv' := [(5, .int (iN 0)), (0, .ref (a 0)), (1, .ref (a 4)), (2, .int (iN x2)), (3, .int (iN x3)), (4, .int (iN x4))]) hx hb dX7_isBlocking_58 hl (by decide) rfl (fun ls hl => ?_)
          refine lv_aload_n hx hb dX7_isBlocking_60 rfl (lv_at hl 2 rfl) ?_
          refine lv_iload_n hx hb dX7_isBlocking_61 rfl (lv_at hl 3 rfl) ?_
          refine lv_aload_n hx hb dX7_isBlocking_62 rfl (lv_at hl 1 rfl) ?_
          refine x_get (C := RX7) (T := TX7) (NF := 17) (v := .int (iN (σ 0 1))) hx hb hts iX7 hown hK hP 0 (by decide) (mE_0 cI a (_)) rfl 1 (by decide) fl7 rfl dX7_isBlocking_63 ?_
          refine lv_iload hx hb dX7_isBlocking_66 (lv_at hl 5 rfl) ?_
          obtain ⟨v49, hv49, hf⟩ := bd hf
          refine x_callP (va_runS (As := [.ref (a 4), .int (iN x2), .int (iN (σ 0 1)), .int (iN x4)]) (rest := []) ⟨hx, hb, hml, hown, hts⟩ (kX7_taken_4 l dC dI cI a σ x2 (σ 0 1) x4 v49 hv49 hR rx2 (hR 0 1) rx4) (va_cwS 4 hts gX7_isBlocking_X7_taken rfl rfl rfl hX7_taken_d ⟨Nat.le_trans (by decide) hrm.1, Nat.le_trans (by decide) hrm.2⟩) (psM hP hK) rfl rfl hl.1 rfl (lv_room (Nat.le_of_ble_eq_true rfl)) dX7_isBlocking_68 ⟨Nat.zero_le _, Nat.zero_le _⟩) (fun rv49 => ?_)
          refine lv_aload_n hx hb dX7_isBlocking_71 rfl (lv_at hl 1 rfl) ?_
          refine x_get (C := RX7) (T := TX7) (NF := 17) (v := .ref (a 1)) hx hb hts iX7 hown hK hP 0 (by decide) (mE_0 cI a (_)) rfl 3 (by decide) fl16 rfl dX7_isBlocking_72 ?_
          refine lv_iload hx hb dX7_isBlocking_75 (lv_at hl 5 rfl) ?_
          obtain ⟨g50, hf⟩ := gd hf
          refine x_iald hx hb hK hP 1 0 (by decide) (mE_1 cI a (_)) (by decide) rfl g50 dX7_isBlocking_77 ?_
          refine x_icmp_ge (tgt := 85) hx hb rv49 (hR 1 x4) dX7_isBlocking_78 (by decide) (fun c85 => ?_) (fun c85 => ?_)
          · replace hf := (if_neg c85).symm.trans hf
            refine lv_iconst (v := iN 0) hx hb dX7_isBlocking_85 rfl ?_
            refine lv_istore (lv' := [(6, .int (iN 0)), (5, .int (iN 0)), (0, .ref (a 0)), (1, .ref (a 4)), (2, .int (iN x2)), (3, .int (iN x3)), (4, .int (iN x4))]) hx hb dX7_isBlocking_86 hl (by decide) rfl (fun ls hl => ?_)
            refine lv_iconst (v := iN 0) hx hb dX7_isBlocking_88 rfl ?_
            refine lv_istore (lv' := [(7, .int (iN 0)), (6, .int (iN 0)), (5, .int (iN 0)), (0, .ref (a 0)), (1, .ref (a 4)), (2, .int (iN x2)), (3, .int (iN x3)), (4, .int (iN x4))]) hx hb dX7_isBlocking_89 hl (by decide) rfl (fun ls hl => ?_)
            have L_fX7_isBlocking_0_4_L91_2 : ∀ (EX0 : Int → Int → Option Int), (∀ (v51 : Int) (v52 : Int), rng v51 → rng v52 → EX0 v51 v52 = some r → ∀ ls, lv_has ls 8 [(0, .ref (a 0)), (1, .ref (a 4)), (2, .int (iN x2)), (3, .int (iN x3)), (4, .int (iN x4)), (5, .int (iN 0)), (6, .int (iN v51)), (7, .int (iN v52))] → W p l e RR s m args below meth c s.heap [] 0 0 QQ (F0 m 149 ls [])) → ∀ n0 : Nat, ∀ (v51 : Int) (v52 : Int), rng v51 → rng v52 → fX7_isBlocking_0_4_L91 σ x2 x3 x4 EX0 n0 v51 v52 = some r → ∀ ls, lv_has ls 8 [(0, .ref (a 0)), (1, .ref (a 4)), (2, .int (iN x2)), (3, .int (iN x3)), (4, .int (iN x4)), (5, .int (iN 0)), (6, .int (iN v51)), (7, .int (iN v52))] → W p l e RR s m args below meth c s.heap [] 0 0 QQ (F0 m 91 ls []) := by
              intro EX0 hEX0 n0
              induction n0 with
              | zero => intro _ _ _ _ hf; cases hf
              | succ n0 ih0 =>
                intro v51 v52 rv51 rv52 hf ls hl
                rw [fX7_isBlocking_0_4_L91] at hf
                refine lv_iload hx hb dX7_isBlocking_91 (lv_at hl 7 rfl) ?_
                refine lv_aload_n hx hb dX7_isBlocking_93 rfl (lv_at hl 0 rfl) ?_
                refine x_get (C := RX7) (T := TX7) (NF := 17) (v := .int (iN (σ 0 1))) hx hb hts iX7 hown hK hP 0 (by decide) (mE_0 cI a (_)) rfl 1 (by decide) fl7 rfl dX7_isBlocking_94 ?_
                refine x_icmp_ge (tgt := 149) hx hb rv52 (hR 0 1) dX7_isBlocking_97 (by decide) (fun c64 => ?_) (fun c64 => ?_)
                · replace hf := (if_neg c64).symm.trans hf
                  exact hEX0 _ _ rv51 rv52 hf _ (lv_sub hl [0, 1, 2, 3, 4, 5, 6, 7] rfl)
                · replace hf := (if_pos c64).symm.trans hf
                  refine lv_iload hx hb dX7_isBlocking_100 (lv_at hl 6 rfl) ?_
                  refine x_if_ne (tgt := 136) hx hb rv51 dX7_isBlocking_102 (by decide) (fun c63 => ?_) (fun c63 => ?_)
                  · replace hf := (if_neg c63).symm.trans hf
                    refine lv_iconst (v := iN 1) hx hb dX7_isBlocking_136 rfl ?_
                    refine lv_goto (tgt := 141) hx hb dX7_isBlocking_137 (by decide) ?_
                    refine lv_istore (lv' := [(6, .int (iN 1)), (0, .ref (a 0)), (1, .ref (a 4)), (2, .int (iN x2)), (3, .int (iN x3)), (4, .int (iN x4)), (5, .int (iN 0)), (7, .int (iN v52))]) hx hb dX7_isBlocking_141 hl (by decide) rfl (fun ls hl => ?_)
                    obtain ⟨g53, hf⟩ := gd hf
                    refine lv_iinc (v := iN (v52 + 1)) (lv' := [(7, .int (iN (v52 + 1))), (6, .int (iN 1)), (0, .ref (a 0)), (1, .ref (a 4)), (2, .int (iN x2)), (3, .int (iN x3)), (4, .int (iN x4)), (5, .int (iN 0))]) hx hb dX7_isBlocking_143 hl (k := 7) rfl (iN_add v52 1) (by decide) rfl (fun ls hl => ?_)
                    refine lv_goto (tgt := 91) hx hb dX7_isBlocking_146 (by decide) ?_
                    exact ih0 _ _ (by decide) g53 hf _ (lv_sub hl [2, 3, 4, 5, 6, 7, 1, 0] rfl)
                  · replace hf := (if_pos c63).symm.trans hf
                    refine lv_aload_n hx hb dX7_isBlocking_105 rfl (lv_at hl 1 rfl) ?_
                    refine lv_iload_n hx hb dX7_isBlocking_106 rfl (lv_at hl 2 rfl) ?_
                    refine lv_iload hx hb dX7_isBlocking_107 (lv_at hl 7 rfl) ?_
                    obtain ⟨g54, hf⟩ := gd hf
                    refine x_iadd hx hb dX7_isBlocking_109 ?_
                    obtain ⟨g55, hf⟩ := gd hf
                    refine x_iald hx hb hK hP 4 0 (by decide) (mE_4 cI a (_)) (by decide) rfl g55 dX7_isBlocking_110 ?_
                    refine lv_iload hx hb dX7_isBlocking_111 (lv_at hl 4 rfl) ?_
                    refine x_icmp_ne (tgt := 140) hx hb (hR 4 (x2 + v52)) rx4 dX7_isBlocking_113 (by decide) (fun c62 => ?_) (fun c62 => ?_)
                    · replace hf := (if_neg c62).symm.trans hf
                      refine lv_iconst (v := iN 0) hx hb dX7_isBlocking_140 rfl ?_
                      refine lv_istore (lv' := [(6, .int (iN 0)), (0, .ref (a 0)), (1, .ref (a 4)), (2, .int (iN x2)), (3, .int (iN x3)), (4, .int (iN x4)), (5, .int (iN 0)), (7, .int (iN v52))]) hx hb dX7_isBlocking_141 hl (by decide) rfl (fun ls hl => ?_)
                      obtain ⟨g56, hf⟩ := gd hf
                      refine lv_iinc (v := iN (v52 + 1)) (lv' := [(7, .int (iN (v52 + 1))), (6, .int (iN 0)), (0, .ref (a 0)), (1, .ref (a 4)), (2, .int (iN x2)), (3, .int (iN x3)), (4, .int (iN x4)), (5, .int (iN 0))]) hx hb dX7_isBlocking_143 hl (k := 7) rfl (iN_add v52 1) (by decide) rfl (fun ls hl => ?_)
                      refine lv_goto (tgt := 91) hx hb dX7_isBlocking_146 (by decide) ?_
                      exact ih0 _ _ (by decide) g56 hf _ (lv_sub hl [2, 3, 4, 5, 6, 7, 1, 0] rfl)
                    · replace hf := (if_pos c62).symm.trans hf
                      refine lv_aload_n hx hb dX7_isBlocking_116 rfl (lv_at hl 0 rfl) ?_
                      refine lv_iconst (v := iN 1) hx hb dX7_isBlocking_117 rfl ?_
                      refine lv_iload hx hb dX7_isBlocking_118 (lv_at hl 4 rfl) ?_
                      refine lv_iload_n hx hb dX7_isBlocking_120 rfl (lv_at hl 3 rfl) ?_
                      obtain ⟨v57, hv57, hf⟩ := bd hf
                      refine x_callP (va_runV (As := [.int (iN 1), .int (iN x4), .int (iN x3)]) (rest := []) ⟨hx, hb, hml, hown, hts⟩ (kX7_place_0 l dC dI cI a σ 1 x4 x3 v57 hv57 hR (by decide) rx4 rx3) (cwV 3 hts gX7_isBlocking_X7_place rfl rfl rfl hX7_place_d ⟨Nat.le_trans (by decide) hrm.1, Nat.le_trans (by decide) hrm.2⟩) (pvM 0 (by decide) (mE_0 cI a (_)) rfl hP hK) rfl rfl hl.1 rfl (lv_room (Nat.le_of_ble_eq_true rfl)) dX7_isBlocking_121 ⟨Nat.zero_le _, Nat.zero_le _⟩) (fun rv57 => ?_)
                      refine lv_aload_n hx hb dX7_isBlocking_124 rfl (lv_at hl 0 rfl) ?_
                      refine lv_iconst (v := iN 1) hx hb dX7_isBlocking_125 rfl ?_
                      refine lv_iload hx hb dX7_isBlocking_126 (lv_at hl 4 rfl) ?_
                      refine lv_iload hx hb dX7_isBlocking_128 (lv_at hl 7 rfl) ?_
                      obtain ⟨v58, hv58, hf⟩ := bd hf
                      refine x_callP (va_runV (As := [.int (iN 1), .int (iN x4), .int (iN v52)]) (rest := [.int (iN v57)]) ⟨hx, hb, hml, hown, hts⟩ (kX7_place_0 l dC dI cI a σ 1 x4 v52 v58 hv58 hR (by decide) rx4 rv52) (cwV 3 hts gX7_isBlocking_X7_place rfl rfl rfl hX7_place_d ⟨Nat.le_trans (by decide) hrm.1, Nat.le_trans (by decide) hrm.2⟩) (pvM 0 (by decide) (mE_0 cI a (_)) rfl hP hK) rfl rfl hl.1 rfl (lv_room (Nat.le_of_ble_eq_true rfl)) dX7_isBlocking_130 ⟨Nat.zero_le _, Nat.zero_le _⟩) (fun rv58 => ?_)
                      refine x_icmp_ge (tgt := 140) hx hb rv57 rv58 dX7_isBlocking_133 (by decide) (fun c61 => ?_) (fun c61 => ?_)
                      · replace hf := (if_neg c61).symm.trans hf
                        refine lv_iconst (v := iN 0) hx hb dX7_isBlocking_140 rfl ?_
                        refine lv_istore (lv' := [(6, .int (iN 0)), (0, .ref (a 0)), (1, .ref (a 4)), (2, .int (iN x2)), (3, .int (iN x3)), (4, .int (iN x4)), (5, .int (iN 0)), (7, .int (iN v52))]) hx hb dX7_isBlocking_141 hl (by decide) rfl (fun ls hl => ?_)
                        obtain ⟨g59, hf⟩ := gd hf
                        refine lv_iinc (v := iN (v52 + 1)) (lv' := [(7, .int (iN (v52 + 1))), (6, .int (iN 0)), (0, .ref (a 0)), (1, .ref (a 4)), (2, .int (iN x2)), (3, .int (iN x3)), (4, .int (iN x4)), (5, .int (iN 0))]) hx hb dX7_isBlocking_143 hl (k := 7) rfl (iN_add v52 1) (by decide) rfl (fun ls hl => ?_)
                        refine lv_goto (tgt := 91) hx hb dX7_isBlocking_146 (by decide) ?_
                        exact ih0 _ _ (by decide) g59 hf _ (lv_sub hl [2, 3, 4, 5, 6, 7, 1, 0] rfl)
                      · replace hf := (if_pos c61).symm.trans hf
                        refine lv_iconst (v := iN 1) hx hb dX7_isBlocking_136 rfl ?_
                        refine lv_goto (tgt := 141) hx hb dX7_isBlocking_137 (by decide) ?_
                        refine lv_istore (lv' := [(6, .int (iN 1)), (0, .ref (a 0)), (1, .ref (a 4)), (2, .int (iN x2)), (3, .int (iN x3)), (4, .int (iN x4)), (5, .int (iN 0)), (7, .int (iN v52))]) hx hb dX7_isBlocking_141 hl (by decide) rfl (fun ls hl => ?_)
                        obtain ⟨g60, hf⟩ := gd hf
                        refine lv_iinc (v := iN (v52 + 1)) (lv' := [(7, .int (iN (v52 + 1))), (6, .int (iN 1)), (0, .ref (a 0)), (1, .ref (a 4)), (2, .int (iN x2)), (3, .int (iN x3)), (4, .int (iN x4)), (5, .int (iN 0))]) hx hb dX7_isBlocking_143 hl (k := 7) rfl (iN_add v52 1) (by decide) rfl (fun ls hl => ?_)
                        refine lv_goto (tgt := 91) hx hb dX7_isBlocking_146 (by decide) ?_
                        exact ih0 _ _ (by decide) g60 hf _ (lv_sub hl [2, 3, 4, 5, 6, 7, 1, 0] rfl)
            refine L_fX7_isBlocking_0_4_L91_2 _ (fun v65 v66 rv65 rv66 hf ls hl => ?_) _ _ _ (by decide) (by decide) hf _ (lv_sub hl [3, 4, 5, 6, 7, 2, 1, 0] rfl)
            refine lv_iload hx hb dX7_isBlocking_149 (lv_at hl 5 rfl) ?_
            refine x_if_eq (tgt := 163) hx hb (by decide) dX7_isBlocking_151 (by decide) (fun c67 => ?_) (fun c67 => ?_)
            · refine lv_iconst (v := iN 0) hx hb dX7_isBlocking_163 rfl ?_
              rw [← hQQ]
              exact x_zret hx hb hr (by decide) (Option.some.inj hf) (by decide) hlocks dX7_isBlocking_164
            · exact absurd c67 (by decide)
          · replace hf := (if_pos c85).symm.trans hf
            refine lv_iconst (v := iN 1) hx hb dX7_isBlocking_81 rfl ?_
            refine lv_goto (tgt := 86) hx hb dX7_isBlocking_82 (by decide) ?_
            refine lv_istore (lv' := [(6, .int (iN 1)), (5, .int (iN 0)), (0, .ref (a 0)), (1, .ref (a 4)), (2, .int (iN x2)), (3, .int (iN x3)), (4, .int (iN x4))]) hx hb dX7_isBlocking_86 hl (by decide) rfl (fun ls hl => ?_)
            refine lv_iconst (v := iN 0) hx hb dX7_isBlocking_88 rfl ?_
            refine lv_istore (lv' := [(7, .int (iN 0)), (6, .int (iN 1)), (5, .int (iN 0)), (0, .ref (a 0)), (1, .ref (a 4)), (2, .int (iN x2)), (3, .int (iN x3)), (4, .int (iN x4))]) hx hb dX7_isBlocking_89 hl (by decide) rfl (fun ls hl => ?_)
            have L_fX7_isBlocking_0_4_L91_2 : ∀ (EX0 : Int → Int → Option Int), (∀ (v68 : Int) (v69 : Int), rng v68 → rng v69 → EX0 v68 v69 = some r → ∀ ls, lv_has ls 8 [(0, .ref (a 0)), (1, .ref (a 4)), (2, .int (iN x2)), (3, .int (iN x3)), (4, .int (iN x4)), (5, .int (iN 0)), (6, .int (iN v68)), (7, .int (iN v69))] → W p l e RR s m args below meth c s.heap [] 0 0 QQ (F0 m 149 ls [])) → ∀ n0 : Nat, ∀ (v68 : Int) (v69 : Int), rng v68 → rng v69 → fX7_isBlocking_0_4_L91 σ x2 x3 x4 EX0 n0 v68 v69 = some r → ∀ ls, lv_has ls 8 [(0, .ref (a 0)), (1, .ref (a 4)), (2, .int (iN x2)), (3, .int (iN x3)), (4, .int (iN x4)), (5, .int (iN 0)), (6, .int (iN v68)), (7, .int (iN v69))] → W p l e RR s m args below meth c s.heap [] 0 0 QQ (F0 m 91 ls []) := by
              intro EX0 hEX0 n0
              induction n0 with
              | zero => intro _ _ _ _ hf; cases hf
              | succ n0 ih0 =>
                intro v68 v69 rv68 rv69 hf ls hl
                rw [fX7_isBlocking_0_4_L91] at hf
                refine lv_iload hx hb dX7_isBlocking_91 (lv_at hl 7 rfl) ?_
                refine lv_aload_n hx hb dX7_isBlocking_93 rfl (lv_at hl 0 rfl) ?_
                refine x_get (C := RX7) (T := TX7) (NF := 17) (v := .int (iN (σ 0 1))) hx hb hts iX7 hown hK hP 0 (by decide) (mE_0 cI a (_)) rfl 1 (by decide) fl7 rfl dX7_isBlocking_94 ?_
                refine x_icmp_ge (tgt := 149) hx hb rv69 (hR 0 1) dX7_isBlocking_97 (by decide) (fun c81 => ?_) (fun c81 => ?_)
                · replace hf := (if_neg c81).symm.trans hf
                  exact hEX0 _ _ rv68 rv69 hf _ (lv_sub hl [0, 1, 2, 3, 4, 5, 6, 7] rfl)
                · replace hf := (if_pos c81).symm.trans hf
                  refine lv_iload hx hb dX7_isBlocking_100 (lv_at hl 6 rfl) ?_
                  refine x_if_ne (tgt := 136) hx hb rv68 dX7_isBlocking_102 (by decide) (fun c80 => ?_) (fun c80 => ?_)
                  · replace hf := (if_neg c80).symm.trans hf
                    refine lv_iconst (v := iN 1) hx hb dX7_isBlocking_136 rfl ?_
                    refine lv_goto (tgt := 141) hx hb dX7_isBlocking_137 (by decide) ?_
                    refine lv_istore (lv' := [(6, .int (iN 1)), (0, .ref (a 0)), (1, .ref (a 4)), (2, .int (iN x2)), (3, .int (iN x3)), (4, .int (iN x4)), (5, .int (iN 0)), (7, .int (iN v69))]) hx hb dX7_isBlocking_141 hl (by decide) rfl (fun ls hl => ?_)
                    obtain ⟨g70, hf⟩ := gd hf
                    refine lv_iinc (v := iN (v69 + 1)) (lv' := [(7, .int (iN (v69 + 1))), (6, .int (iN 1)), (0, .ref (a 0)), (1, .ref (a 4)), (2, .int (iN x2)), (3, .int (iN x3)), (4, .int (iN x4)), (5, .int (iN 0))]) hx hb dX7_isBlocking_143 hl (k := 7) rfl (iN_add v69 1) (by decide) rfl (fun ls hl => ?_)
                    refine lv_goto (tgt := 91) hx hb dX7_isBlocking_146 (by decide) ?_
                    exact ih0 _ _ (by decide) g70 hf _ (lv_sub hl [2, 3, 4, 5, 6, 7, 1, 0] rfl)
                  · replace hf := (if_pos c80).symm.trans hf
                    refine lv_aload_n hx hb dX7_isBlocking_105 rfl (lv_at hl 1 rfl) ?_
                    refine lv_iload_n hx hb dX7_isBlocking_106 rfl (lv_at hl 2 rfl) ?_
                    refine lv_iload hx hb dX7_isBlocking_107 (lv_at hl 7 rfl) ?_
                    obtain ⟨g71, hf⟩ := gd hf
                    refine x_iadd hx hb dX7_isBlocking_109 ?_
                    obtain ⟨g72, hf⟩ := gd hf
                    refine x_iald hx hb hK hP 4 0 (by decide) (mE_4 cI a (_)) (by decide) rfl g72 dX7_isBlocking_110 ?_
                    refine lv_iload hx hb dX7_isBlocking_111 (lv_at hl 4 rfl) ?_
                    refine x_icmp_ne (tgt := 140) hx hb (hR 4 (x2 + v69)) rx4 dX7_isBlocking_113 (by decide) (fun c79 => ?_) (fun c79 => ?_)
                    · replace hf := (if_neg c79).symm.trans hf
                      refine lv_iconst (v := iN 0) hx hb dX7_isBlocking_140 rfl ?_
                      refine lv_istore (lv' := [(6, .int (iN 0)), (0, .ref (a 0)), (1, .ref (a 4)), (2, .int (iN x2)), (3, .int (iN x3)), (4, .int (iN x4)), (5, .int (iN 0)), (7, .int (iN v69))]) hx hb dX7_isBlocking_141 hl (by decide) rfl (fun ls hl => ?_)
                      obtain ⟨g73, hf⟩ := gd hf
                      refine lv_iinc (v := iN (v69 + 1)) (lv' := [(7, .int (iN (v69 + 1))), (6, .int (iN 0)), (0, .ref (a 0)), (1, .ref (a 4)), (2, .int (iN x2)), (3, .int (iN x3)), (4, .int (iN x4)), (5, .int (iN 0))]) hx hb dX7_isBlocking_143 hl (k := 7) rfl (iN_add v69 1) (by decide) rfl (fun ls hl => ?_)
                      refine lv_goto (tgt := 91) hx hb dX7_isBlocking_146 (by decide) ?_
                      exact ih0 _ _ (by decide) g73 hf _ (lv_sub hl [2, 3, 4, 5, 6, 7, 1, 0] rfl)
                    · replace hf := (if_pos c79).symm.trans hf
                      refine lv_aload_n hx hb dX7_isBlocking_116 rfl (lv_at hl 0 rfl) ?_
                      refine lv_iconst (v := iN 1) hx hb dX7_isBlocking_117 rfl ?_
                      refine lv_iload hx hb dX7_isBlocking_118 (lv_at hl 4 rfl) ?_
                      refine lv_iload_n hx hb dX7_isBlocking_120 rfl (lv_at hl 3 rfl) ?_
                      obtain ⟨v74, hv74, hf⟩ := bd hf
                      refine x_callP (va_runV (As := [.int (iN 1), .int (iN x4), .int (iN x3)]) (rest := []) ⟨hx, hb, hml, hown, hts⟩ (kX7_place_0 l dC dI cI a σ 1 x4 x3 v74 hv74 hR (by decide) rx4 rx3) (cwV 3 hts gX7_isBlocking_X7_place rfl rfl rfl hX7_place_d ⟨Nat.le_trans (by decide) hrm.1, Nat.le_trans (by decide) hrm.2⟩) (pvM 0 (by decide) (mE_0 cI a (_)) rfl hP hK) rfl rfl hl.1 rfl (lv_room (Nat.le_of_ble_eq_true rfl)) dX7_isBlocking_121 ⟨Nat.zero_le _, Nat.zero_le _⟩) (fun rv74 => ?_)
                      refine lv_aload_n hx hb dX7_isBlocking_124 rfl (lv_at hl 0 rfl) ?_
                      refine lv_iconst (v := iN 1) hx hb dX7_isBlocking_125 rfl ?_
                      refine lv_iload hx hb dX7_isBlocking_126 (lv_at hl 4 rfl) ?_
                      refine lv_iload hx hb dX7_isBlocking_128 (lv_at hl 7 rfl) ?_
                      obtain ⟨v75, hv75, hf⟩ := bd hf
                      refine x_callP (va_runV (As := [.int (iN 1), .int (iN x4), .int (iN v69)]) (rest := [.int (iN v74)]) ⟨hx, hb, hml, hown, hts⟩ (kX7_place_0 l dC dI cI a σ 1 x4 v69 v75 hv75 hR (by decide) rx4 rv69) (cwV 3 hts gX7_isBlocking_X7_place rfl rfl rfl hX7_place_d ⟨Nat.le_trans (by decide) hrm.1, Nat.le_trans (by decide) hrm.2⟩) (pvM 0 (by decide) (mE_0 cI a (_)) rfl hP hK) rfl rfl hl.1 rfl (lv_room (Nat.le_of_ble_eq_true rfl)) dX7_isBlocking_130 ⟨Nat.zero_le _, Nat.zero_le _⟩) (fun rv75 => ?_)
                      refine x_icmp_ge (tgt := 140) hx hb rv74 rv75 dX7_isBlocking_133 (by decide) (fun c78 => ?_) (fun c78 => ?_)
                      · replace hf := (if_neg c78).symm.trans hf
                        refine lv_iconst (v := iN 0) hx hb dX7_isBlocking_140 rfl ?_
                        refine lv_istore (lv' := [(6, .int (iN 0)), (0, .ref (a 0)), (1, .ref (a 4)), (2, .int (iN x2)), (3, .int (iN x3)), (4, .int (iN x4)), (5, .int (iN 0)), (7, .int (iN v69))]) hx hb dX7_isBlocking_141 hl (by decide) rfl (fun ls hl => ?_)
                        obtain ⟨g76, hf⟩ := gd hf
                        refine lv_iinc (v := iN (v69 + 1)) (lv' := [(7, .int (iN (v69 + 1))), (6, .int (iN 0)), (0, .ref (a 0)), (1, .ref (a 4)), (2, .int (iN x2)), (3, .int (iN x3)), (4, .int (iN x4)), (5, .int (iN 0))]) hx hb dX7_isBlocking_143 hl (k := 7) rfl (iN_add v69 1) (by decide) rfl (fun ls hl => ?_)
                        refine lv_goto (tgt := 91) hx hb dX7_isBlocking_146 (by decide) ?_
                        exact ih0 _ _ (by decide) g76 hf _ (lv_sub hl [2, 3, 4, 5, 6, 7, 1, 0] rfl)
                      · replace hf := (if_pos c78).symm.trans hf
                        refine lv_iconst (v := iN 1) hx hb dX7_isBlocking_136 rfl ?_
                        refine lv_goto (tgt := 141) hx hb dX7_isBlocking_137 (by decide) ?_
                        refine lv_istore (lv' := [(6, .int (iN 1)), (0, .ref (a 0)), (1, .ref (a 4)), (2, .int (iN x2)), (3, .int (iN x3)), (4, .int (iN x4)), (5, .int (iN 0)), (7, .int (iN v69))]) hx hb dX7_isBlocking_141 hl (by decide) rfl (fun ls hl => ?_)
                        obtain ⟨g77, hf⟩ := gd hf
                        refine lv_iinc (v := iN (v69 + 1)) (lv' := [(7, .int (iN (v69 + 1))), (6, .int (iN 1)), (0, .ref (a 0)), (1, .ref (a 4)), (2, .int (iN x2)), (3, .int (iN x3)), (4, .int (iN x4)), (5, .int (iN 0))]) hx hb dX7_isBlocking_143 hl (k := 7) rfl (iN_add v69 1) (by decide) rfl (fun ls hl => ?_)
                        refine lv_goto (tgt := 91) hx hb dX7_isBlocking_146 (by decide) ?_
                        exact ih0 _ _ (by decide) g77 hf _ (lv_sub hl [2, 3, 4, 5, 6, 7, 1, 0] rfl)
            refine L_fX7_isBlocking_0_4_L91_2 _ (fun v82 v83 rv82 rv83 hf ls hl => ?_) _ _ _ (by decide) (by decide) hf _ (lv_sub hl [3, 4, 5, 6, 7, 2, 1, 0] rfl)
            refine lv_iload hx hb dX7_isBlocking_149 (lv_at hl 5 rfl) ?_
            refine x_if_eq (tgt := 163) hx hb (by decide) dX7_isBlocking_151 (by decide) (fun c84 => ?_) (fun c84 => ?_)
            · refine lv_iconst (v := iN 0) hx hb dX7_isBlocking_163 rfl ?_
              rw [← hQQ]
              exact x_zret hx hb hr (by decide) (Option.some.inj hf) (by decide) hlocks dX7_isBlocking_164
            · exact absurd c84 (by decide)
        · replace hf := (if_pos c125).symm.trans hf
          refine lv_iconst (v := iN 1) hx hb dX7_isBlocking_53 rfl ?_
          refine lv_goto (tgt := 58) hx hb dX7_isBlocking_54 (by decide) ?_
          refine lv_istore (lv' := [(5, .int (iN 1)), (0, .ref (a 0)), (1, .ref (a 4)), (2, .int (iN x2)), (3, .int (iN x3)), (4, .int (iN x4))]) hx hb dX7_isBlocking_58 hl (by decide) rfl (fun ls hl => ?_)
          refine lv_aload_n hx hb dX7_isBlocking_60 rfl (lv_at hl 2 rfl) ?_
          refine lv_iload_n hx hb dX7_isBlocking_61 rfl (lv_at hl 3 rfl) ?_
          refine lv_aload_n hx hb dX7_isBlocking_62 rfl (lv_at hl 1 rfl) ?_
          refine x_get (C := RX7) (T := TX7) (NF := 17) (v := .int (iN (σ 0 1))) hx hb hts iX7 hown hK hP 0 (by decide) (mE_0 cI a (_)) rfl 1 (by decide) fl7 rfl dX7_isBlocking_63 ?_
          refine lv_iload hx hb dX7_isBlocking_66 (lv_at hl 5 rfl) ?_
          obtain ⟨v86, hv86, hf⟩ := bd hf
          refine x_callP (va_runS (As := [.ref (a 4), .int (iN x2), .int (iN (σ 0 1)), .int (iN x4)]) (rest := []) ⟨hx, hb, hml, hown, hts⟩ (kX7_taken_4 l dC dI cI a σ x2 (σ 0 1) x4 v86 hv86 hR rx2 (hR 0 1) rx4) (va_cwS 4 hts gX7_isBlocking_X7_taken rfl rfl rfl hX7_taken_d ⟨Nat.le_trans (by decide) hrm.1, Nat.le_trans (by decide) hrm.2⟩) (psM hP hK) rfl rfl hl.1 rfl (lv_room (Nat.le_of_ble_eq_true rfl)) dX7_isBlocking_68 ⟨Nat.zero_le _, Nat.zero_le _⟩) (fun rv86 => ?_)
          refine lv_aload_n hx hb dX7_isBlocking_71 rfl (lv_at hl 1 rfl) ?_
          refine x_get (C := RX7) (T := TX7) (NF := 17) (v := .ref (a 1)) hx hb hts iX7 hown hK hP 0 (by decide) (mE_0 cI a (_)) rfl 3 (by decide) fl16 rfl dX7_isBlocking_72 ?_
          refine lv_iload hx hb dX7_isBlocking_75 (lv_at hl 5 rfl) ?_
          obtain ⟨g87, hf⟩ := gd hf
          refine x_iald hx hb hK hP 1 0 (by decide) (mE_1 cI a (_)) (by decide) rfl g87 dX7_isBlocking_77 ?_
          refine x_icmp_ge (tgt := 85) hx hb rv86 (hR 1 x4) dX7_isBlocking_78 (by decide) (fun c124 => ?_) (fun c124 => ?_)
          · replace hf := (if_neg c124).symm.trans hf
            refine lv_iconst (v := iN 0) hx hb dX7_isBlocking_85 rfl ?_
            refine lv_istore (lv' := [(6, .int (iN 0)), (5, .int (iN 1)), (0, .ref (a 0)), (1, .ref (a 4)), (2, .int (iN x2)), (3, .int (iN x3)), (4, .int (iN x4))]) hx hb dX7_isBlocking_86 hl (by decide) rfl (fun ls hl => ?_)
            refine lv_iconst (v := iN 0) hx hb dX7_isBlocking_88 rfl ?_
            refine lv_istore (lv' := [(7, .int (iN 0)), (6, .int (iN 0)), (5, .int (iN 1)), (0, .ref (a 0)), (1, .ref (a 4)), (2, .int (iN x2)), (3, .int (iN x3)), (4, .int (iN x4))]) hx hb dX7_isBlocking_89 hl (by decide) rfl (fun ls hl => ?_)
            have L_fX7_isBlocking_0_4_L91_2 : ∀ (EX0 : Int → Int → Option Int), (∀ (v88 : Int) (v89 : Int), rng v88 → rng v89 → EX0 v88 v89 = some r → ∀ ls, lv_has ls 8 [(0, .ref (a 0)), (1, .ref (a 4)), (2, .int (iN x2)), (3, .int (iN x3)), (4, .int (iN x4)), (5, .int (iN 1)), (6, .int (iN v88)), (7, .int (iN v89))] → W p l e RR s m args below meth c s.heap [] 0 0 QQ (F0 m 149 ls [])) → ∀ n0 : Nat, ∀ (v88 : Int) (v89 : Int), rng v88 → rng v89 → fX7_isBlocking_0_4_L91 σ x2 x3 x4 EX0 n0 v88 v89 = some r → ∀ ls, lv_has ls 8 [(0, .ref (a 0)), (1, .ref (a 4)), (2, .int (iN x2)), (3, .int (iN x3)), (4, .int (iN x4)), (5, .int (iN 1)), (6, .int (iN v88)), (7, .int (iN v89))] → W p l e RR s m args below meth c s.heap [] 0 0 QQ (F0 m 91 ls []) := by
              intro EX0 hEX0 n0
              induction n0 with
              | zero => intro _ _ _ _ hf; cases hf
              | succ n0 ih0 =>
                intro v88 v89 rv88 rv89 hf ls hl
                rw [fX7_isBlocking_0_4_L91] at hf
                refine lv_iload hx hb dX7_isBlocking_91 (lv_at hl 7 rfl) ?_
                refine lv_aload_n hx hb dX7_isBlocking_93 rfl (lv_at hl 0 rfl) ?_
                refine x_get (C := RX7) (T := TX7) (NF := 17) (v := .int (iN (σ 0 1))) hx hb hts iX7 hown hK hP 0 (by decide) (mE_0 cI a (_)) rfl 1 (by decide) fl7 rfl dX7_isBlocking_94 ?_
                refine x_icmp_ge (tgt := 149) hx hb rv89 (hR 0 1) dX7_isBlocking_97 (by decide) (fun c101 => ?_) (fun c101 => ?_)
                · replace hf := (if_neg c101).symm.trans hf
                  exact hEX0 _ _ rv88 rv89 hf _ (lv_sub hl [0, 1, 2, 3, 4, 5, 6, 7] rfl)
                · replace hf := (if_pos c101).symm.trans hf
                  refine lv_iload hx hb dX7_isBlocking_100 (lv_at hl 6 rfl) ?_
                  refine x_if_ne (tgt := 136) hx hb rv88 dX7_isBlocking_102 (by decide) (fun c100 => ?_) (fun c100 => ?_)
                  · replace hf := (if_neg c100).symm.trans hf
                    refine lv_iconst (v := iN 1) hx hb dX7_isBlocking_136 rfl ?_
                    refine lv_goto (tgt := 141) hx hb dX7_isBlocking_137 (by decide) ?_
                    refine lv_istore (lv' := [(6, .int (iN 1)), (0, .ref (a 0)), (1, .ref (a 4)), (2, .int (iN x2)), (3, .int (iN x3)), (4, .int (iN x4)), (5, .int (iN 1)), (7, .int (iN v89))]) hx hb dX7_isBlocking_141 hl (by decide) rfl (fun ls hl => ?_)
                    obtain ⟨g90, hf⟩ := gd hf
                    refine lv_iinc (v := iN (v89 + 1)) (lv' := [(7, .int (iN (v89 + 1))), (6, .int (iN 1)), (0, .ref (a 0)), (1, .ref (a 4)), (2, .int (iN x2)), (3, .int (iN x3)), (4, .int (iN x4)), (5, .int (iN 1))]) hx hb dX7_isBlocking_143 hl (k := 7) rfl (iN_add v89 1) (by decide) rfl (fun ls hl => ?_)
                    refine lv_goto (tgt := 91) hx hb dX7_isBlocking_146 (by decide) ?_
                    exact ih0 _ _ (by decide) g90 hf _ (lv_sub hl [2, 3, 4, 5, 6, 7, 1, 0] rfl)
                  · replace hf := (if_pos c100).symm.trans hf
                    refine lv_aload_n hx hb dX7_isBlocking_105 rfl (lv_at hl 1 rfl) ?_
                    refine lv_iload_n hx hb dX7_isBlocking_106 rfl (lv_at hl 2 rfl) ?_
                    refine lv_iload hx hb dX7_isBlocking_107 (lv_at hl 7 rfl) ?_
                    obtain ⟨g91, hf⟩ := gd hf
                    refine x_iadd hx hb dX7_isBlocking_109 ?_
                    obtain ⟨g92, hf⟩ := gd hf
                    refine x_iald hx hb hK hP 4 0 (by decide) (mE_4 cI a (_)) (by decide) rfl g92 dX7_isBlocking_110 ?_
                    refine lv_iload hx hb dX7_isBlocking_111 (lv_at hl 4 rfl) ?_
                    refine x_icmp_ne (tgt := 140) hx hb (hR 4 (x2 + v89)) rx4 dX7_isBlocking_113 (by decide) (fun c99 => ?_) (fun c99 => ?_)
                    · replace hf := (if_neg c99).symm.trans hf
                      refine lv_iconst (v := iN 0) hx hb dX7_isBlocking_140 rfl ?_
                      refine lv_istore (lv' := [(6, .int (iN 0)), (0, .ref (a 0)), (1, .ref (a 4)), (2, .int (iN x2)), (3, .int (iN x3)), (4, .int (iN x4)), (5, .int (iN 1)), (7, .int (iN v89))]) hx hb dX7_isBlocking_141 hl (by decide) rfl (fun ls hl => ?_)
                      obtain ⟨g93, hf⟩ := gd hf
                      refine lv_iinc (v := iN (v89 + 1)) (lv' := [(7, .int (iN (v89 + 1))), (6, .int (iN 0)), (0, .ref (a 0)), (1, .ref (a 4)), (2, .int (iN x2)), (3, .int (iN x3)), (4, .int (iN x4)), (5, .int (iN 1))]) hx hb dX7_isBlocking_143 hl (k := 7) rfl (iN_add v89 1) (by decide) rfl (fun ls hl => ?_)
                      refine lv_goto (tgt := 91) hx hb dX7_isBlocking_146 (by decide) ?_
                      exact ih0 _ _ (by decide) g93 hf _ (lv_sub hl [2, 3, 4, 5, 6, 7, 1, 0] rfl)
                    · replace hf := (if_pos c99).symm.trans hf
                      refine lv_aload_n hx hb dX7_isBlocking_116 rfl (lv_at hl 0 rfl) ?_
                      refine lv_iconst (v := iN 1) hx hb dX7_isBlocking_117 rfl ?_
                      refine lv_iload hx hb dX7_isBlocking_118 (lv_at hl 4 rfl) ?_
                      refine lv_iload_n hx hb dX7_isBlocking_120 rfl (lv_at hl 3 rfl) ?_
                      obtain ⟨v94, hv94, hf⟩ := bd hf
                      refine x_callP (va_runV (As := [.int (iN 1), .int (iN x4), .int (iN x3)]) (rest := []) ⟨hx, hb, hml, hown, hts⟩ (kX7_place_0 l dC dI cI a σ 1 x4 x3 v94 hv94 hR (by decide) rx4 rx3) (cwV 3 hts gX7_isBlocking_X7_place rfl rfl rfl hX7_place_d ⟨Nat.le_trans (by decide) hrm.1, Nat.le_trans (by decide) hrm.2⟩) (pvM 0 (by decide) (mE_0 cI a (_)) rfl hP hK) rfl rfl hl.1 rfl (lv_room (Nat.le_of_ble_eq_true rfl)) dX7_isBlocking_121 ⟨Nat.zero_le _, Nat.zero_le _⟩) (fun rv94 => ?_)
                      refine lv_aload_n hx hb dX7_isBlocking_124 rfl (lv_at hl 0 rfl) ?_
                      refine lv_iconst (v := iN 1) hx hb dX7_isBlocking_125 rfl ?_
                      refine lv_iload hx hb dX7_isBlocking_126 (lv_at hl 4 rfl) ?_
                      refine lv_iload hx hb dX7_isBlocking_128 (lv_at hl 7 rfl) ?_
                      obtain ⟨v95, hv95, hf⟩ := bd hf
                      refine x_callP (va_runV (As := [.int (iN 1), .int (iN x4), .int (iN v89)]) (rest := [.int (iN v94)]) ⟨hx, hb, hml, hown, hts⟩ (kX7_place_0 l dC dI cI a σ 1 x4 v89 v95 hv95 hR (by decide) rx4 rv89) (cwV 3 hts gX7_isBlocking_X7_place rfl rfl rfl hX7_place_d ⟨Nat.le_trans (by decide) hrm.1, Nat.le_trans (by decide) hrm.2⟩) (pvM 0 (by decide) (mE_0 cI a (_)) rfl hP hK) rfl rfl hl.1 rfl (lv_room (Nat.le_of_ble_eq_true rfl)) dX7_isBlocking_130 ⟨Nat.zero_le _, Nat.zero_le _⟩) (fun rv95 => ?_)
                      refine x_icmp_ge (tgt := 140) hx hb rv94 rv95 dX7_isBlocking_133 (by decide) (fun c98 => ?_) (fun c98 => ?_)
                      · replace hf := (if_neg c98).symm.trans hf
                        refine lv_iconst (v := iN 0) hx hb dX7_isBlocking_140 rfl ?_
                        refine lv_istore (lv' := [(6, .int (iN 0)), (0, .ref (a 0)), (1, .ref (a 4)), (2, .int (iN x2)), (3, .int (iN x3)), (4, .int (iN x4)), (5, .int (iN 1)), (7, .int (iN v89))]) hx hb dX7_isBlocking_141 hl (by decide) rfl (fun ls hl => ?_)
                        obtain ⟨g96, hf⟩ := gd hf
                        refine lv_iinc (v := iN (v89 + 1)) (lv' := [(7, .int (iN (v89 + 1))), (6, .int (iN 0)), (0, .ref (a 0)), (1, .ref (a 4)), (2, .int (iN x2)), (3, .int (iN x3)), (4, .int (iN x4)), (5, .int (iN 1))]) hx hb dX7_isBlocking_143 hl (k := 7) rfl (iN_add v89 1) (by decide) rfl (fun ls hl => ?_)
                        refine lv_goto (tgt := 91) hx hb dX7_isBlocking_146 (by decide) ?_
                        exact ih0 _ _ (by decide) g96 hf _ (lv_sub hl [2, 3, 4, 5, 6, 7, 1, 0] rfl)
                      · replace hf := (if_pos c98).symm.trans hf
                        refine lv_iconst (v := iN 1) hx hb dX7_isBlocking_136 rfl ?_
                        refine lv_goto (tgt := 141) hx hb dX7_isBlocking_137 (by decide) ?_
                        refine lv_istore (lv' := [(6, .int (iN 1)), (0, .ref (a 0)), (1, .ref (a 4)), (2, .int (iN x2)), (3, .int (iN x3)), (4, .int (iN x4)), (5, .int (iN 1)), (7, .int (iN v89))]) hx hb dX7_isBlocking_141 hl (by decide) rfl (fun ls hl => ?_)
                        obtain ⟨g97, hf⟩ := gd hf
                        refine lv_iinc (v := iN (v89 + 1)) (lv' := [(7, .int (iN (v89 + 1))), (6, .int (iN 1)), (0, .ref (a 0)), (1, .ref (a 4)), (2, .int (iN x2)), (3, .int (iN x3)), (4, .int (iN x4)), (5, .int (iN 1))]) hx hb dX7_isBlocking_143 hl (k := 7) rfl (iN_add v89 1) (by decide) rfl (fun ls hl => ?_)
                        refine lv_goto (tgt := 91) hx hb dX7_isBlocking_146 (by decide) ?_
                        exact ih0 _ _ (by decide) g97 hf _ (lv_sub hl [2, 3, 4, 5, 6, 7, 1, 0] rfl)
            refine L_fX7_isBlocking_0_4_L91_2 _ (fun v102 v103 rv102 rv103 hf ls hl => ?_) _ _ _ (by decide) (by decide) hf _ (lv_sub hl [3, 4, 5, 6, 7, 2, 1, 0] rfl)
            refine lv_iload hx hb dX7_isBlocking_149 (lv_at hl 5 rfl) ?_
            refine x_if_eq (tgt := 163) hx hb (by decide) dX7_isBlocking_151 (by decide) (fun c105 => ?_) (fun c105 => ?_)
            · exact absurd c105 (by decide)
            · refine lv_iload hx hb dX7_isBlocking_154 (lv_at hl 6 rfl) ?_
              refine x_if_eq (tgt := 163) hx hb rv102 dX7_isBlocking_156 (by decide) (fun c104 => ?_) (fun c104 => ?_)
              · replace hf := (if_pos c104).symm.trans hf
                refine lv_iconst (v := iN 0) hx hb dX7_isBlocking_163 rfl ?_
                rw [← hQQ]
                exact x_zret hx hb hr (by decide) (Option.some.inj hf) (by decide) hlocks dX7_isBlocking_164
              · replace hf := (if_neg c104).symm.trans hf
                refine lv_iconst (v := iN 1) hx hb dX7_isBlocking_159 rfl ?_
                refine lv_goto (tgt := 164) hx hb dX7_isBlocking_160 (by decide) ?_
                rw [← hQQ]
                exact x_zret hx hb hr (by decide) (Option.some.inj hf) (by decide) hlocks dX7_isBlocking_164
          · replace hf := (if_pos c124).symm.trans hf
            refine lv_iconst (v := iN 1) hx hb dX7_isBlocking_81 rfl ?_
            refine lv_goto (tgt := 86) hx hb dX7_isBlocking_82 (by decide) ?_
            refine lv_istore (lv' := [(6, .int (iN 1)), (5, .int (iN 1)), (0, .ref (a 0)), (1, .ref (a 4)), (2, .int (iN x2)), (3, .int (iN x3)), (4, .int (iN x4))]) hx hb dX7_isBlocking_86 hl (by decide) rfl (fun ls hl => ?_)
            refine lv_iconst (v := iN 0) hx hb dX7_isBlocking_88 rfl ?_
            refine lv_istore (lv' := [(7, .int (iN 0)), (6, .int (iN 1)), (5, .int (iN 1)), (0, .ref (a 0)), (1, .ref (a 4)), (2, .int (iN x2)), (3, .int (iN x3)), (4, .int (iN x4))]) hx hb dX7_isBlocking_89 hl (by decide) rfl (fun ls hl => ?_)
            have L_fX7_isBlocking_0_4_L91_2 : ∀ (EX0 : Int → Int → Option Int), (∀ (v106 : Int) (v107 : Int), rng v106 → rng v107 → EX0 v106 v107 = some r → ∀ ls, lv_has ls 8 [(0, .ref (a 0)), (1, .ref (a 4)), (2, .int (iN x2)), (3, .int (iN x3)), (4, .int (iN x4)), (5, .int (iN 1)), (6, .int (iN v106)), (7, .int (iN v107))] → W p l e RR s m args below meth c s.heap [] 0 0 QQ (F0 m 149 ls [])) → ∀ n0 : Nat, ∀ (v106 : Int) (v107 : Int), rng v106 → rng v107 → fX7_isBlocking_0_4_L91 σ x2 x3 x4 EX0 n0 v106 v107 = some r → ∀ ls, lv_has ls 8 [(0, .ref (a 0)), (1, .ref (a 4)), (2, .int (iN x2)), (3, .int (iN x3)), (4, .int (iN x4)), (5, .int (iN 1)), (6, .int (iN v106)), (7, .int (iN v107))] → W p l e RR s m args below meth c s.heap [] 0 0 QQ (F0 m 91 ls []) := by
              intro EX0 hEX0 n0
              induction n0 with
              | zero => intro _ _ _ _ hf; cases hf
              | succ n0 ih0 =>
                intro v106 v107 rv106 rv107 hf ls hl
                rw [fX7_isBlocking_0_4_L91] at hf
                refine lv_iload hx hb dX7_isBlocking_91 (lv_at hl 7 rfl) ?_
                refine lv_aload_n hx hb dX7_isBlocking_93 rfl (lv_at hl 0 rfl) ?_
                refine x_get (C := RX7) (T := TX7) (NF := 17) (v := .int (iN (σ 0 1))) hx hb hts iX7 hown hK hP 0 (by decide) (mE_0 cI a (_)) rfl 1 (by decide) fl7 rfl dX7_isBlocking_94 ?_
                refine x_icmp_ge (tgt := 149) hx hb rv107 (hR 0 1) dX7_isBlocking_97 (by decide) (fun c119 => ?_) (fun c119 => ?_)
                · replace hf := (if_neg c119).symm.trans hf
                  exact hEX0 _ _ rv106 rv107 hf _ (lv_sub hl [0, 1, 2, 3, 4, 5, 6, 7] rfl)
                · replace hf := (if_pos c119).symm.trans hf
                  refine lv_iload hx hb dX7_isBlocking_100 (lv_at hl 6 rfl) ?_
                  refine x_if_ne (tgt := 136) hx hb rv106 dX7_isBlocking_102 (by decide) (fun c118 => ?_) (fun c118 => ?_)
                  · replace hf := (if_neg c118).symm.trans hf
                    refine lv_iconst (v := iN 1) hx hb dX7_isBlocking_136 rfl ?_
                    refine lv_goto (tgt := 141) hx hb dX7_isBlocking_137 (by decide) ?_
                    refine lv_istore (lv' := [(6, .int (iN 1)), (0, .ref (a 0)), (1, .ref (a 4)), (2, .int (iN x2)), (3, .int (iN x3)), (4, .int (iN x4)), (5, .int (iN 1)), (7, .int (iN v107))]) hx hb dX7_isBlocking_141 hl (by decide) rfl (fun ls hl => ?_)
                    obtain ⟨g108, hf⟩ := gd hf
                    refine lv_iinc (v := iN (v107 + 1)) (lv' := [(7, .int (iN (v107 + 1))), (6, .int (iN 1)), (0, .ref (a 0)), (1, .ref (a 4)), (2, .int (iN x2)), (3, .int (iN x3)), (4, .int (iN x4)), (5, .int (iN 1))]) hx hb dX7_isBlocking_143 hl (k := 7) rfl (iN_add v107 1) (by decide) rfl (fun ls hl => ?_)
                    refine lv_goto (tgt := 91) hx hb dX7_isBlocking_146 (by decide) ?_
                    exact ih0 _ _ (by decide) g108 hf _ (lv_sub hl [2, 3, 4, 5, 6, 7, 1, 0] rfl)
                  · replace hf := (if_pos c118).symm.trans hf
                    refine lv_aload_n hx hb dX7_isBlocking_105 rfl (lv_at hl 1 rfl) ?_
                    refine lv_iload_n hx hb dX7_isBlocking_106 rfl (lv_at hl 2 rfl) ?_
                    refine lv_iload hx hb dX7_isBlocking_107 (lv_at hl 7 rfl) ?_
                    obtain ⟨g109, hf⟩ := gd hf
                    refine x_iadd hx hb dX7_isBlocking_109 ?_
                    obtain ⟨g110, hf⟩ := gd hf
                    refine x_iald hx hb hK hP 4 0 (by decide) (mE_4 cI a (_)) (by decide) rfl g110 dX7_isBlocking_110 ?_
                    refine lv_iload hx hb dX7_isBlocking_111 (lv_at hl 4 rfl) ?_
                    refine x_icmp_ne (tgt := 140) hx hb (hR 4 (x2 + v107)) rx4 dX7_isBlocking_113 (by decide) (fun c117 => ?_) (fun c117 => ?_)
                    · replace hf := (if_neg c117).symm.trans hf
                      refine lv_iconst (v := iN 0) hx hb dX7_isBlocking_140 rfl ?_
                      refine lv_istore (lv' := [(6, .int (iN 0)), (0, .ref (a 0)), (1, .ref (a 4)), (2, .int (iN x2)), (3, .int (iN x3)), (4, .int (iN x4)), (5, .int (iN 1)), (7, .int (iN v107))]) hx hb dX7_isBlocking_141 hl (by decide) rfl (fun ls hl => ?_)
                      obtain ⟨g111, hf⟩ := gd hf
                      refine lv_iinc (v := iN (v107 + 1)) (lv' := [(7, .int (iN (v107 + 1))), (6, .int (iN 0)), (0, .ref (a 0)), (1, .ref (a 4)), (2, .int (iN x2)), (3, .int (iN x3)), (4, .int (iN x4)), (5, .int (iN 1))]) hx hb dX7_isBlocking_143 hl (k := 7) rfl (iN_add v107 1) (by decide) rfl (fun ls hl => ?_)
                      refine lv_goto (tgt := 91) hx hb dX7_isBlocking_146 (by decide) ?_
                      exact ih0 _ _ (by decide) g111 hf _ (lv_sub hl [2, 3, 4, 5, 6, 7, 1, 0] rfl)
                    · replace hf := (if_pos c117).symm.trans hf
                      refine lv_aload_n hx hb dX7_isBlocking_116 rfl (lv_at hl 0 rfl) ?_
                      refine lv_iconst (v := iN 1) hx hb dX7_isBlocking_117 rfl ?_
                      refine lv_iload hx hb dX7_isBlocking_118 (lv_at hl 4 rfl) ?_
                      refine lv_iload_n hx hb dX7_isBlocking_120 rfl (lv_at hl 3 rfl) ?_
                      obtain ⟨v112, hv112, hf⟩ := bd hf
                      refine x_callP (va_runV (As := [.int (iN 1), .int (iN x4), .int (iN x3)]) (rest := []) ⟨hx, hb, hml, hown, hts⟩ (kX7_place_0 l dC dI cI a σ 1 x4 x3 v112 hv112 hR (by decide) rx4 rx3) (cwV 3 hts gX7_isBlocking_X7_place rfl rfl rfl hX7_place_d ⟨Nat.le_trans (by decide) hrm.1, Nat.le_trans (by decide) hrm.2⟩) (pvM 0 (by decide) (mE_0 cI a (_)) rfl hP hK) rfl rfl hl.1 rfl (lv_room (Nat.le_of_ble_eq_true rfl)) dX7_isBlocking_121 ⟨Nat.zero_le _, Nat.zero_le _⟩) (fun rv112 => ?_)
                      refine lv_aload_n hx hb dX7_isBlocking_124 rfl (lv_at hl 0 rfl) ?_
                      refine lv_iconst (v := iN 1) hx hb dX7_isBlocking_125 rfl ?_
                      refine lv_iload hx hb dX7_isBlocking_126 (lv_at hl 4 rfl) ?_
                      refine lv_iload hx hb dX7_isBlocking_128 (lv_at hl 7 rfl) ?_
                      obtain ⟨v113, hv113, hf⟩ := bd hf
                      refine x_callP (va_runV (As := [.int (iN 1), .int (iN x4), .int (iN v107)]) (rest := [.int (iN v112)]) ⟨hx, hb, hml, hown, hts⟩ (kX7_place_0 l dC dI cI a σ 1 x4 v107 v113 hv113 hR (by decide) rx4 rv107) (cwV 3 hts gX7_isBlocking_X7_place rfl rfl rfl hX7_place_d ⟨Nat.le_trans (by decide) hrm.1, Nat.le_trans (by decide) hrm.2⟩) (pvM 0 (by decide) (mE_0 cI a (_)) rfl hP hK) rfl rfl hl.1 rfl (lv_room (Nat.le_of_ble_eq_true rfl)) dX7_isBlocking_130 ⟨Nat.zero_le _, Nat.zero_le _⟩) (fun rv113 => ?_)
                      refine x_icmp_ge (tgt := 140) hx hb rv112 rv113 dX7_isBlocking_133 (by decide) (fun c116 => ?_) (fun c116 => ?_)
                      · replace hf := (if_neg c116).symm.trans hf
                        refine lv_iconst (v := iN 0) hx hb dX7_isBlocking_140 rfl ?_
                        refine lv_istore (lv' := [(6, .int (iN 0)), (0, .ref (a 0)), (1, .ref (a 4)), (2, .int (iN x2)), (3, .int (iN x3)), (4, .int (iN x4)), (5, .int (iN 1)), (7, .int (iN v107))]) hx hb dX7_isBlocking_141 hl (by decide) rfl (fun ls hl => ?_)
                        obtain ⟨g114, hf⟩ := gd hf
                        refine lv_iinc (v := iN (v107 + 1)) (lv' := [(7, .int (iN (v107 + 1))), (6, .int (iN 0)), (0, .ref (a 0)), (1, .ref (a 4)), (2, .int (iN x2)), (3, .int (iN x3)), (4, .int (iN x4)), (5, .int (iN 1))]) hx hb dX7_isBlocking_143 hl (k := 7) rfl (iN_add v107 1) (by decide) rfl (fun ls hl => ?_)
                        refine lv_goto (tgt := 91) hx hb dX7_isBlocking_146 (by decide) ?_
                        exact ih0 _ _ (by decide) g114 hf _ (lv_sub hl [2, 3, 4, 5, 6, 7, 1, 0] rfl)
                      · replace hf := (if_pos c116).symm.trans hf
                        refine lv_iconst (v := iN 1) hx hb dX7_isBlocking_136 rfl ?_
                        refine lv_goto (tgt := 141) hx hb dX7_isBlocking_137 (by decide) ?_
                        refine lv_istore (lv' := [(6, .int (iN 1)), (0, .ref (a 0)), (1, .ref (a 4)), (2, .int (iN x2)), (3, .int (iN x3)), (4, .int (iN x4)), (5, .int (iN 1)), (7, .int (iN v107))]) hx hb dX7_isBlocking_141 hl (by decide) rfl (fun ls hl => ?_)
                        obtain ⟨g115, hf⟩ := gd hf
                        refine lv_iinc (v := iN (v107 + 1)) (lv' := [(7, .int (iN (v107 + 1))), (6, .int (iN 1)), (0, .ref (a 0)), (1, .ref (a 4)), (2, .int (iN x2)), (3, .int (iN x3)), (4, .int (iN x4)), (5, .int (iN 1))]) hx hb dX7_isBlocking_143 hl (k := 7) rfl (iN_add v107 1) (by decide) rfl (fun ls hl => ?_)
                        refine lv_goto (tgt := 91) hx hb dX7_isBlocking_146 (by decide) ?_
                        exact ih0 _ _ (by decide) g115 hf _ (lv_sub hl [2, 3, 4, 5, 6, 7, 1, 0] rfl)
            refine L_fX7_isBlocking_0_4_L91_2 _ (fun v120 v121 rv120 rv121 hf ls hl => ?_) _ _ _ (by decide) (by decide) hf _ (lv_sub hl [3, 4, 5, 6, 7, 2, 1, 0] rfl)
            refine lv_iload hx hb dX7_isBlocking_149 (lv_at hl 5 rfl) ?_
            refine x_if_eq (tgt := 163) hx hb (by decide) dX7_isBlocking_151 (by decide) (fun c123 => ?_) (fun c123 => ?_)
            · exact absurd c123 (by decide)
            · refine lv_iload hx hb dX7_isBlocking_154 (lv_at hl 6 rfl) ?_
              refine x_if_eq (tgt := 163) hx hb rv120 dX7_isBlocking_156 (by decide) (fun c122 => ?_) (fun c122 => ?_)
              · replace hf := (if_pos c122).symm.trans hf
                refine lv_iconst (v := iN 0) hx hb dX7_isBlocking_163 rfl ?_
                rw [← hQQ]
                exact x_zret hx hb hr (by decide) (Option.some.inj hf) (by decide) hlocks dX7_isBlocking_164
              · replace hf := (if_neg c122).symm.trans hf
                refine lv_iconst (v := iN 1) hx hb dX7_isBlocking_159 rfl ?_
                refine lv_goto (tgt := 164) hx hb dX7_isBlocking_160 (by decide) ?_
                rw [← hQQ]
                exact x_zret hx hb hr (by decide) (Option.some.inj hf) (by decide) hlocks dX7_isBlocking_164
    · replace hf := (if_pos c127).symm.trans hf
      refine lv_iconst (v := iN 0) hx hb dX7_isBlocking_20 rfl ?_
      rw [← hQQ]
      exact x_zret hx hb hr (by decide) (Option.some.inj hf) (by decide) hlocks dX7_isBlocking_21
def fX7_blocksOf_0_4_L17 (σ : Mem) (x2 : Int) (v2 : Int) (ex1 : Int → Int → Option Int) : Nat → Int → Int → Option Int
  | 0, _, _ => none
  | n1 + 1, v3, v4 => if v4 < (σ 0 2) then (fX7_isBlocking_0_4 σ x2 v2 v4).bind fun v5 => if v5 = 0 then if rng (v3 + 0) then if rng (v4 + 1) then fX7_blocksOf_0_4_L17 σ x2 v2 ex1 n1 (v3 + 0) (v4 + 1) else none else none else if rng (v3 + 1) then if rng (v4 + 1) then fX7_blocksOf_0_4_L17 σ x2 v2 ex1 n1 (v3 + 1) (v4 + 1) else none else none else ex1 v3 v4
def fX7_blocksOf_0_4_L5 (σ : Mem) (x2 : Int) (ex0 : Int → Int → Option Int) : Nat → Int → Int → Option Int
  | 0, _, _ => none
  | n0 + 1, v1, v2 => if v2 < (σ 0 1) then fX7_blocksOf_0_4_L17 σ x2 v2 (fun v12 v13 => if rng (v2 + 1) then fX7_blocksOf_0_4_L5 σ x2 ex0 n0 v12 (v2 + 1) else none) FU v1 0 else ex0 v1 v2
def fX7_blocksOf_0_4 (σ : Mem) (x2 : Int) : Option Int := fX7_blocksOf_0_4_L5 σ x2 (fun v16 v17 => some v16) FU 0 0
set_option maxHeartbeats 4000000 in
set_option maxRecDepth 100000 in
theorem kX7_blocksOf_0_4 (l : Launch) (dC : Nat → ClassId) (dI : Nat → Nat → Nat) (cI : ClassId) (a : Nat → Nat) (σ : Mem) (x2 : Int) (r : Int) (hf : fX7_blocksOf_0_4 σ x2 = some r) (hR : Rg σ) (rx2 : rng x2) : Met l yX7_blocksOf wsX7_blocksOf ({ frames := 3, cells := 0, slots := 0, locals := 74 }) (va_Pc [.ref (a 0), .ref (a 4), .int (iN x2)] (preM dC dI cI a σ)) (qP r) 0 0 (fun _ => False) := by
  refine Met.ofW (cc := cX7_blocksOf) (maxL := 6) (ret := (some .int)) (by decide) rfl ?_
  intro p e s m args below meth c s₁ B hml hv
  obtain ⟨hargs, hP, hK⟩ := hv
  have hx := B.exec
  have hb := B.bytes
  have hr := B.returns
  have hts := atoms_spec (ws := wsX7_blocksOf) B.pre
  have hown : s.vm.findClass RX7 = some m.cls := findClass_of_methodNamed B.named
  have hlocks := B.notSynchronized
  have iX7 : ∀ w ∈ wsX70, w ∈ wsX7_blocksOf := by decide +kernel
  have fl13 := hts (.fieldLink RX7 13 "MatchHallModel" "hospitals" "I") (by decide +kernel)
  have fl7 := hts (.fieldLink RX7 7 "MatchHallModel" "residents" "I") (by decide +kernel)
  have hrm : 3 ≤ (headSpec wsX7_blocksOf ({ frames := 3, cells := 0, slots := 0, locals := 74 })).room.frames ∧ 74 ≤ (headSpec wsX7_blocksOf ({ frames := 3, cells := 0, slots := 0, locals := 74 })).room.locals := ⟨Nat.le_refl _, Nat.le_refl _⟩
  generalize (headSpec wsX7_blocksOf ({ frames := 3, cells := 0, slots := 0, locals := 74 })).room = RR at hrm ⊢
  have hl := lv_entry ([.ref (a 0), .ref (a 4), .int (iN x2)]) (n := 6) (Nat.le_of_ble_eq_true rfl)
  rw [show entryFrame m args 6 = entryFrame m ([.ref (a 0), .ref (a 4), .int (iN x2)] : List Value).toArray 6 from by rw [hargs], lg_entry_eq]
  generalize (lg_sl ([.ref (a 0), .ref (a 4), .int (iN x2)]) ++ List.replicate (6 - (lg_sl ([.ref (a 0), .ref (a 4), .int (iN x2)])).length) Slot.unset).toArray = ls at hl ⊢
  have hl : lv_has ls 6 [(0, .ref (a 0)), (1, .ref (a 4)), (2, .int (iN x2))] := hl
  generalize hQQ : MQ below (qP r) args s 0 0 (fun _ => False) = QQ
  refine lv_iconst (v := iN 0) hx hb dX7_blocksOf_0 rfl ?_
  refine lv_istore_n (lv' := [(3, .int (iN 0)), (0, .ref (a 0)), (1, .ref (a 4)), (2, .int (iN x2))]) hx hb dX7_blocksOf_1 rfl hl (by decide) rfl (fun ls hl => ?_)
  refine lv_iconst (v := iN 0) hx hb dX7_blocksOf_2 rfl ?_
  refine lv_istore (lv' := [(4, .int (iN 0)), (3, .int (iN 0)), (0, .ref (a 0)), (1, .ref (a 4)), (2, .int (iN x2))]) hx hb dX7_blocksOf_3 hl (by decide) rfl (fun ls hl => ?_)
  have L_fX7_blocksOf_0_4_L5 : ∀ (EX0 : Int → Int → Option Int), (∀ (v1 : Int) (v2 : Int), rng v1 → rng v2 → EX0 v1 v2 = some r → ∀ ls, lv_has ls 6 [(0, .ref (a 0)), (1, .ref (a 4)), (2, .int (iN x2)), (3, .int (iN v1)), (4, .int (iN v2))] → W p l e RR s m args below meth c s.heap [] 0 0 QQ (F0 m 59 ls [])) → ∀ n0 : Nat, ∀ (v1 : Int) (v2 : Int), rng v1 → rng v2 → fX7_blocksOf_0_4_L5 σ x2 EX0 n0 v1 v2 = some r → ∀ ls, lv_has ls 6 [(0, .ref (a 0)), (1, .ref (a 4)), (2, .int (iN x2)), (3, .int (iN v1)), (4, .int (iN v2))] → W p l e RR s m args below meth c s.heap [] 0 0 QQ (F0 m 5 ls []) := by
    intro EX0 hEX0 n0
    induction n0 with
    | zero => intro _ _ _ _ hf; cases hf
    | succ n0 ih0 =>
      intro v1 v2 rv1 rv2 hf ls hl
      rw [fX7_blocksOf_0_4_L5] at hf
      refine lv_iload hx hb dX7_blocksOf_5 (lv_at hl 4 rfl) ?_
      refine lv_aload_n hx hb dX7_blocksOf_7 rfl (lv_at hl 0 rfl) ?_
      refine x_get (C := RX7) (T := TX7) (NF := 17) (v := .int (iN (σ 0 1))) hx hb hts iX7 hown hK hP 0 (by decide) (mE_0 cI a (_)) rfl 1 (by decide) fl7 rfl dX7_blocksOf_8 ?_
      refine x_icmp_ge (tgt := 59) hx hb rv2 (hR 0 1) dX7_blocksOf_11 (by decide) (fun c15 => ?_) (fun c15 => ?_)
      · replace hf := (if_neg c15).symm.trans hf
        exact hEX0 _ _ rv1 rv2 hf _ (lv_sub hl [0, 1, 2, 3, 4] rfl)
      · replace hf := (if_pos c15).symm.trans hf
        refine lv_iconst (v := iN 0) hx hb dX7_blocksOf_14 rfl ?_
        refine lv_istore (lv' := [(5, .int (iN 0)), (0, .ref (a 0)), (1, .ref (a 4)), (2, .int (iN x2)), (3, .int (iN v1)), (4, .int (iN v2))]) hx hb dX7_blocksOf_15 hl (by decide) rfl (fun ls hl => ?_)
        have L_fX7_blocksOf_0_4_L17 : ∀ (EX1 : Int → Int → Option Int), (∀ (v3 : Int) (v4 : Int), rng v3 → rng v4 → EX1 v3 v4 = some r → ∀ ls, lv_has ls 6 [(0, .ref (a 0)), (1, .ref (a 4)), (2, .int (iN x2)), (3, .int (iN v3)), (4, .int (iN v2)), (5, .int (iN v4))] → W p l e RR s m args below meth c s.heap [] 0 0 QQ (F0 m 53 ls [])) → ∀ n1 : Nat, ∀ (v3 : Int) (v4 : Int), rng v3 → rng v4 → fX7_blocksOf_0_4_L17 σ x2 v2 EX1 n1 v3 v4 = some r → ∀ ls, lv_has ls 6 [(0, .ref (a 0)), (1, .ref (a 4)), (2, .int (iN x2)), (3, .int (iN v3)), (4, .int (iN v2)), (5, .int (iN v4))] → W p l e RR s m args below meth c s.heap [] 0 0 QQ (F0 m 17 ls []) := by
          intro EX1 hEX1 n1
          induction n1 with
          | zero => intro _ _ _ _ hf; cases hf
          | succ n1 ih1 =>
            intro v3 v4 rv3 rv4 hf ls hl
            rw [fX7_blocksOf_0_4_L17] at hf
            refine lv_iload hx hb dX7_blocksOf_17 (lv_at hl 5 rfl) ?_
            refine lv_aload_n hx hb dX7_blocksOf_19 rfl (lv_at hl 0 rfl) ?_
            refine x_get (C := RX7) (T := TX7) (NF := 17) (v := .int (iN (σ 0 2))) hx hb hts iX7 hown hK hP 0 (by decide) (mE_0 cI a (_)) rfl 2 (by decide) fl13 rfl dX7_blocksOf_20 ?_
            refine x_icmp_ge (tgt := 53) hx hb rv4 (hR 0 2) dX7_blocksOf_23 (by decide) (fun c11 => ?_) (fun c11 => ?_)
            · replace hf := (if_neg c11).symm.trans hf
              exact hEX1 _ _ rv3 rv4 hf _ (lv_sub hl [0, 1, 2, 3, 4, 5] rfl)
            · replace hf := (if_pos c11).symm.trans hf
              refine lv_iload_n hx hb dX7_blocksOf_26 rfl (lv_at hl 3 rfl) ?_
              refine lv_aload_n hx hb dX7_blocksOf_27 rfl (lv_at hl 0 rfl) ?_
              refine lv_aload_n hx hb dX7_blocksOf_28 rfl (lv_at hl 1 rfl) ?_
              refine lv_iload_n hx hb dX7_blocksOf_29 rfl (lv_at hl 2 rfl) ?_
              refine lv_iload hx hb dX7_blocksOf_30 (lv_at hl 4 rfl) ?_
              refine lv_iload hx hb dX7_blocksOf_32 (lv_at hl 5 rfl) ?_
              obtain ⟨v5, hv5, hf⟩ := bd hf
              refine x_callP (va_runV (As := [.ref (a 4), .int (iN x2), .int (iN v2), .int (iN v4)]) (rest := [.int (iN v3)]) ⟨hx, hb, hml, hown, hts⟩ (kX7_isBlocking_0_4 l dC dI cI a σ x2 v2 v4 v5 hv5 hR rx2 rv2 rv4) (cwV 4 hts gX7_blocksOf_X7_isBlocking rfl rfl rfl hX7_isBlocking_d ⟨Nat.le_trans (by decide) hrm.1, Nat.le_trans (by decide) hrm.2⟩) (pvM 0 (by decide) (mE_0 cI a (_)) rfl hP hK) rfl rfl hl.1 rfl (lv_room (Nat.le_of_ble_eq_true rfl)) dX7_blocksOf_34 ⟨Nat.zero_le _, Nat.zero_le _⟩) (fun rv5 => ?_)
              refine x_if_eq (tgt := 44) hx hb rv5 dX7_blocksOf_37 (by decide) (fun c10 => ?_) (fun c10 => ?_)
              · replace hf := (if_pos c10).symm.trans hf
                refine lv_iconst (v := iN 0) hx hb dX7_blocksOf_44 rfl ?_
                obtain ⟨g6, hf⟩ := gd hf
                refine x_iadd hx hb dX7_blocksOf_45 ?_
                refine lv_istore_n (lv' := [(3, .int (iN (v3 + 0))), (0, .ref (a 0)), (1, .ref (a 4)), (2, .int (iN x2)), (4, .int (iN v2)), (5, .int (iN v4))]) hx hb dX7_blocksOf_46 rfl hl (by decide) rfl (fun ls hl => ?_)
                obtain ⟨g7, hf⟩ := gd hf
                refine lv_iinc (v := iN (v4 + 1)) (lv' := [(5, .int (iN (v4 + 1))), (3, .int (iN (v3 + 0))), (0, .ref (a 0)), (1, .ref (a 4)), (2, .int (iN x2)), (4, .int (iN v2))]) hx hb dX7_blocksOf_47 hl (k := 5) rfl (iN_add v4 1) (by decide) rfl (fun ls hl => ?_)
                refine lv_goto (tgt := 17) hx hb dX7_blocksOf_50 (by decide) ?_
                exact ih1 _ _ g6 g7 hf _ (lv_sub hl [2, 3, 4, 1, 5, 0] rfl)
              · replace hf := (if_neg c10).symm.trans hf
                refine lv_iconst (v := iN 1) hx hb dX7_blocksOf_40 rfl ?_
                refine lv_goto (tgt := 45) hx hb dX7_blocksOf_41 (by decide) ?_
                obtain ⟨g8, hf⟩ := gd hf
                refine x_iadd hx hb dX7_blocksOf_45 ?_
                refine lv_istore_n (lv' := [(3, .int (iN (v3 + 1))), (0, .ref (a 0)), (1, .ref (a 4)), (2, .int (iN x2)), (4, .int (iN v2)), (5, .int (iN v4))]) hx hb dX7_blocksOf_46 rfl hl (by decide) rfl (fun ls hl => ?_)
                obtain ⟨g9, hf⟩ := gd hf
                refine lv_iinc (v := iN (v4 + 1)) (lv' := [(5, .int (iN (v4 + 1))), (3, .int (iN (v3 + 1))), (0, .ref (a 0)), (1, .ref (a 4)), (2, .int (iN x2)), (4, .int (iN v2))]) hx hb dX7_blocksOf_47 hl (k := 5) rfl (iN_add v4 1) (by decide) rfl (fun ls hl => ?_)
                refine lv_goto (tgt := 17) hx hb dX7_blocksOf_50 (by decide) ?_
                exact ih1 _ _ g8 g9 hf _ (lv_sub hl [2, 3, 4, 1, 5, 0] rfl)
        refine L_fX7_blocksOf_0_4_L17 _ (fun v12 v13 rv12 rv13 hf ls hl => ?_) _ _ _ rv1 (by decide) hf _ (lv_sub hl [1, 2, 3, 4, 5, 0] rfl)
        obtain ⟨g14, hf⟩ := gd hf
        refine lv_iinc (v := iN (v2 + 1)) (lv' := [(4, .int (iN (v2 + 1))), (0, .ref (a 0)), (1, .ref (a 4)), (2, .int (iN x2)), (3, .int (iN v12)), (5, .int (iN v13))]) hx hb dX7_blocksOf_53 hl (k := 4) rfl (iN_add v2 1) (by decide) rfl (fun ls hl => ?_)
        refine lv_goto (tgt := 5) hx hb dX7_blocksOf_56 (by decide) ?_
        exact ih0 _ _ rv12 g14 hf _ (lv_sub hl [1, 2, 3, 4, 0] rfl)
  refine L_fX7_blocksOf_0_4_L5 _ (fun v16 v17 rv16 rv17 hf ls hl => ?_) _ _ _ (by decide) (by decide) hf _ (lv_sub hl [2, 3, 4, 1, 0] rfl)
  refine lv_iload_n hx hb dX7_blocksOf_59 rfl (lv_at hl 3 rfl) ?_
  rw [← hQQ]
  exact x_iret hx hb hr (Option.some.inj hf) rv16 hlocks dX7_blocksOf_60
def fX7_blocks_0 (σ : Mem) : Option (Int × Mem) := nx (mup σ 0 0 0) fun σ1 => (fX7_isMatching_0_4 σ1 0).bind fun v2 => if v2 = 0 then some ((-1), σ1) else (fX7_blocksOf_0_4 σ1 0).bind fun v3 => some (v3, σ1)
set_option maxHeartbeats 4000000 in
set_option maxRecDepth 100000 in
theorem kX7_blocks_0 (l : Launch) (dC : Nat → ClassId) (dI : Nat → Nat → Nat) (cI : ClassId) (a : Nat → Nat) (hi : ∀ i j, i < 12 → j < 12 → a i = a j → i = j) (σ : Mem) (r : (Int × Mem)) (hf : fX7_blocks_0 σ  = some r) (hR : Rg σ) : Met l yX7_blocks wsX7_blocks ({ frames := 4, cells := 0, slots := 0, locals := 99 }) (va_Pc [.ref (a 0)] (preM dC dI cI a σ)) (qM (dC, dI) (gw 12 a (mE cI a)) (gA 12 a) r) 0 0 (gA 12 a) := by
  refine Met.ofW (cc := cX7_blocks) (maxL := 1) (ret := (some .int)) (by decide) rfl ?_
  intro p e s m args below meth c s₁ B hml hv
  obtain ⟨hargs, hP, hK⟩ := hv
  have hx := B.exec
  have hb := B.bytes
  have hr := B.returns
  have hts := atoms_spec (ws := wsX7_blocks) B.pre
  have hown : s.vm.findClass RX7 = some m.cls := findClass_of_methodNamed B.named
  have hlocks := B.notSynchronized
  have hS : va_S (gA 12 a) s.heap s.heap [] := va_S.rf
  have iX7 : ∀ w ∈ wsX70, w ∈ wsX7_blocks := by decide +kernel
  have fl26 := hts (.fieldLink RX7 26 "MatchHallModel" "told" "[I") (by decide +kernel)
  have fl58 := hts (.fieldLink RX7 58 "MatchHallModel" "code" "I") (by decide +kernel)
  have hrm : 4 ≤ (headSpec wsX7_blocks ({ frames := 4, cells := 0, slots := 0, locals := 99 })).room.frames ∧ 99 ≤ (headSpec wsX7_blocks ({ frames := 4, cells := 0, slots := 0, locals := 99 })).room.locals := ⟨Nat.le_refl _, Nat.le_refl _⟩
  generalize (headSpec wsX7_blocks ({ frames := 4, cells := 0, slots := 0, locals := 99 })).room = RR at hrm ⊢
  have hl := lv_entry ([.ref (a 0)]) (n := 1) (Nat.le_of_ble_eq_true rfl)
  rw [show entryFrame m args 1 = entryFrame m ([.ref (a 0)] : List Value).toArray 1 from by rw [hargs], lg_entry_eq]
  generalize (lg_sl ([.ref (a 0)]) ++ List.replicate (1 - (lg_sl ([.ref (a 0)])).length) Slot.unset).toArray = ls at hl ⊢
  have hl : lv_has ls 1 [(0, .ref (a 0))] := hl
  generalize hQQ : MQ below (qM (dC, dI) (gw 12 a (mE cI a)) (gA 12 a) r) args s 0 0 (gA 12 a) = QQ
  refine lv_aload_n hx hb dX7_blocks_0 rfl (lv_at hl 0 rfl) ?_
  refine lv_iconst (v := iN 0) hx hb dX7_blocks_1 rfl ?_
  obtain ⟨σ1, hσ1, hf⟩ := nxe hf
  refine x_put (C := RX7) (T := TX7) (NF := 17) (x := 0) (ty := .int) hx hb hts iX7 tyX7 tyX7_ok nmX7 hi hown hK hP hS 0 (by decide) (mE_0 cI a (_)) rfl 0 0 (by decide) fl58 rfl (by decide +kernel) rfl rfl (Nat.le_of_ble_eq_true rfl) rfl dX7_blocks_2 (fun H locs hP hS => ?_)
  rw [← hσ1] at hP
  have hRσ1 : Rg σ1 := by rw [hσ1]; exact Rg_up hR (by decide)
  refine lv_aload_n hx hb dX7_blocks_5 rfl (lv_at hl 0 rfl) ?_
  refine lv_aload_n hx hb dX7_blocks_6 rfl (lv_at hl 0 rfl) ?_
  refine x_get (C := RX7) (T := TX7) (NF := 17) (v := .ref (a 4)) hx hb hts iX7 hown hK hP 0 (by decide) (mE_0 cI a (_)) rfl 6 (by decide) fl26 rfl dX7_blocks_7 ?_
  refine lv_iconst (v := iN 0) hx hb dX7_blocks_10 rfl ?_
  obtain ⟨v2, hv2, hf⟩ := bd hf
  refine x_callP (va_runV (As := [.ref (a 4), .int (iN 0)]) (rest := []) ⟨hx, hb, hml, hown, hts⟩ (kX7_isMatching_0_4 l dC dI cI a σ1 0 v2 hv2 hRσ1 (by decide)) (cwV 2 hts gX7_blocks_X7_isMatching rfl rfl rfl hX7_isMatching_d ⟨Nat.le_trans (by decide) hrm.1, Nat.le_trans (by decide) hrm.2⟩) (pvM 0 (by decide) (mE_0 cI a (_)) rfl hP hK) rfl rfl hl.1 rfl (lv_room (Nat.le_of_ble_eq_true rfl)) dX7_blocks_11 ⟨Nat.zero_le _, Nat.zero_le _⟩) (fun rv2 => ?_)
  refine x_if_eq (tgt := 29) hx hb rv2 dX7_blocks_14 (by decide) (fun c4 => ?_) (fun c4 => ?_)
  · replace hf := (if_pos c4).symm.trans hf
    refine lv_iconst (v := iN (-1)) hx hb dX7_blocks_29 rfl ?_
    rw [← hQQ]
    exact x_iretM hx hb hr (Option.some.inj hf) (by decide) hRσ1 hP hS hlocks dX7_blocks_30
  · replace hf := (if_neg c4).symm.trans hf
    refine lv_aload_n hx hb dX7_blocks_17 rfl (lv_at hl 0 rfl) ?_
    refine lv_aload_n hx hb dX7_blocks_18 rfl (lv_at hl 0 rfl) ?_
    refine x_get (C := RX7) (T := TX7) (NF := 17) (v := .ref (a 4)) hx hb hts iX7 hown hK hP 0 (by decide) (mE_0 cI a (_)) rfl 6 (by decide) fl26 rfl dX7_blocks_19 ?_
    refine lv_iconst (v := iN 0) hx hb dX7_blocks_22 rfl ?_
    obtain ⟨v3, hv3, hf⟩ := bd hf
    refine x_callP (va_runV (As := [.ref (a 4), .int (iN 0)]) (rest := []) ⟨hx, hb, hml, hown, hts⟩ (kX7_blocksOf_0_4 l dC dI cI a σ1 0 v3 hv3 hRσ1 (by decide)) (cwV 2 hts gX7_blocks_X7_blocksOf rfl rfl rfl hX7_blocksOf_d ⟨Nat.le_trans (by decide) hrm.1, Nat.le_trans (by decide) hrm.2⟩) (pvM 0 (by decide) (mE_0 cI a (_)) rfl hP hK) rfl rfl hl.1 rfl (lv_room (Nat.le_of_ble_eq_true rfl)) dX7_blocks_23 ⟨Nat.zero_le _, Nat.zero_le _⟩) (fun rv3 => ?_)
    refine lv_goto (tgt := 30) hx hb dX7_blocks_26 (by decide) ?_
    rw [← hQQ]
    exact x_iretM hx hb hr (Option.some.inj hf) rv3 hRσ1 hP hS hlocks dX7_blocks_30
