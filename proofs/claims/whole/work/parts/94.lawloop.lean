/-! THE LAW'S LOOP (printed by wip/whole/pure/p94.py) -/
set_option maxHeartbeats 4000000 in
set_option maxRecDepth 100000 in
theorem law_loop {p : Program} {l : Launch} {e : Env} {s : State} {m : MethodId} {below : List Frame} {meth : Method} {c : Code} {b L : Nat} {xs : Nat → Int32} {dC : Nat → ClassId} {dI : Nat → Nat → Nat} {cI cA : ClassId} {a d : Nat → Nat} (hL : L ≤ 2048) (hst : l.stackTraces = false) (C0 : lw_At p s m meth c b L xs) (hG : lwC dC dI cI cA a d s) :
    ∀ (f i : Nat) (H : Heap) (locs : List Loc) (ls : Array Slot) (σ τ : Mem) (cells slots : Nat), i ≤ L → L < i + 4 * f → cells ≤ 100 + i → slots ≤ 9000 + 6 * i → lwI dC dI cI cA a d s H locs σ τ → lv_has ls 5 (lwV a d b i) → W p l e room_1 s m #[Value.ref b] below meth c H locs cells slots (lw_Z below #[Value.ref b] s) (F0 m 18 ls []) := by
  obtain ⟨hx, hb, hr, hml, hown, hts0, hX, hbl, hlocks, hgv⟩ := id C0
  have hbA : ¬ A0 s b := Nat.not_le.mpr hbl
  intro f
  induction f with
  | zero =>
    intro i _ _ _ _ _ _ _ h1 h2
    omega
  | succ f ih =>
    intro i H locs ls σ τ cells slots hi hf hc hs hI hl
    have hS := hI.2.2.1
    refine lv_iload_n hx hb dL_law_18 rfl (lv_at hl 3 rfl) ?_
    refine lv_aload_n hx hb dL_law_19 rfl (lv_at hl 0 rfl) ?_
    refine x_slen (A := A0 s) hx hb hX hbl hbA hS dL_law_20 ?_
    refine lv_iconst (v := iN 4) hx hb dL_law_21 rfl ?_
    refine x_isub hx hb dL_law_22 ?_
    refine x_icmp_gt (tgt := 812) hx hb ⟨by omega, by omega⟩ ⟨by omega, by omega⟩ dL_law_23 (by decide) (fun c6 => ?_) (fun c6 => ?_)
    · refine lv_iconst (v := 1) hx hb dL_law_812 (by decide) ?_
      refine va_forget (fun q hq => hS.2.2 q hq) ?_
      refine W.widen (k := 601024) (n := 7293034) (by omega) (by omega) ?_
      exact lw_ret hx hb hr hlocks dL_law_813
    · have h4 : i + 4 ≤ L := by omega
      have hc2 : cells + 1 ≤ 601024 := by omega
      have hs2 : slots + 6 ≤ 7293034 := by omega
      have e4 : ((i + 4 : Nat) : Int) = (i : Int) + 4 := by omega
      have K : lwK p l e s m below meth c dC dI cI cA a d b i cells slots := by
        intro H1 locs1 ls1 σ1 τ1 c1 s1 hc1 hs1 hI1 hl1
        refine lv_iinc (v := iN ((i : Int) + 4)) (lv' := [(3, .int (iN ((i : Int) + 4))), (0, .ref b), (1, .ref (a 0)), (2, .ref (d 0))]) hx hb dL_law_806 hl1 (k := 3) rfl (iN_add (i : Int) 4) (by decide) rfl (fun ls2 hl2 => ?_)
        refine lv_goto (tgt := 18) hx hb dL_law_809 (by decide) ?_
        have hl3 : lv_has ls2 5 (lwV a d b (i + 4)) := by
          show lv_has ls2 5 [(0, .ref b), (1, .ref (a 0)), (2, .ref (d 0)), (3, .int (iN ((i + 4 : Nat) : Int)))]
          rw [e4]
          exact lv_sub hl2 [1, 2, 3, 0] rfl
        exact ih (i + 4) H1 locs1 ls2 σ1 τ1 c1 s1 h4 (by omega) (by omega) (by omega) hI1 hl3
      refine lv_aload_n hx hb dL_law_26 rfl (lv_at hl 0 rfl) ?_
      refine lv_iload_n hx hb dL_law_27 rfl (lv_at hl 3 rfl) ?_
      refine x_sld (A := A0 s) (j := i) hx hb hX hbl hbA hS rfl (by omega) hL dL_law_28 ?_
      refine lv_bipush (v := iN 31) hx hb dL_law_29 rfl ?_
      refine x_iand hx hb dL_law_31 ?_
      have rv : rng (bAnd (xz xs i) 31) := by unfold bAnd; exact iN_rng _
      generalize bAnd (xz xs i) 31 = v at rv ⊢
      by_cases c100 : v = 0
      · refine lv_tableIn (off := 104) (tgt := 136) hx hb dL_law_32 (by rw [iN_t rv]; omega) (by rw [iN_t rv]; omega) (by rw [iN_t rv, c100]; rfl) (by decide) ?_
        exact lw_make hL hst C0 hG h4 hI hc2 hs2 hl K
      by_cases c101 : v = 1
      · refine lv_tableIn (off := 148) (tgt := 180) hx hb dL_law_32 (by rw [iN_t rv]; omega) (by rw [iN_t rv]; omega) (by rw [iN_t rv, c101]; rfl) (by decide) ?_
        exact lw_seats hL hst C0 hG h4 hI hc2 hs2 hl K
      by_cases c102 : v = 2
      · refine lv_tableIn (off := 192) (tgt := 224) hx hb dL_law_32 (by rw [iN_t rv]; omega) (by rw [iN_t rv]; omega) (by rw [iN_t rv, c102]; rfl) (by decide) ?_
        exact lw_prefer hL hst C0 hG h4 hI hc2 hs2 hl K
      by_cases c103 : v = 3
      · refine lv_tableIn (off := 235) (tgt := 267) hx hb dL_law_32 (by rw [iN_t rv]; omega) (by rw [iN_t rv]; omega) (by rw [iN_t rv, c103]; rfl) (by decide) ?_
        exact lw_forget hL hst C0 hG h4 hI hc2 hs2 hl K
      by_cases c104 : v = 4
      · refine lv_tableIn (off := 268) (tgt := 300) hx hb dL_law_32 (by rw [iN_t rv]; omega) (by rw [iN_t rv]; omega) (by rw [iN_t rv, c104]; rfl) (by decide) ?_
        exact lw_listed hL hst C0 hG h4 hI hc2 hs2 hl K
      by_cases c105 : v = 5
      · refine lv_tableIn (off := 311) (tgt := 343) hx hb dL_law_32 (by rw [iN_t rv]; omega) (by rw [iN_t rv]; omega) (by rw [iN_t rv, c105]; rfl) (by decide) ?_
        exact lw_work hL hst C0 hG h4 hI hc2 hs2 hl K
      by_cases c106 : v = 6
      · refine lv_tableIn (off := 324) (tgt := 356) hx hb dL_law_32 (by rw [iN_t rv]; omega) (by rw [iN_t rv]; omega) (by rw [iN_t rv, c106]; rfl) (by decide) ?_
        exact lw_count hL hst C0 hG h4 hI hc2 hs2 hl K
      by_cases c107 : v = 7
      · refine lv_tableIn (off := 347) (tgt := 379) hx hb dL_law_32 (by rw [iN_t rv]; omega) (by rw [iN_t rv]; omega) (by rw [iN_t rv, c107]; rfl) (by decide) ?_
        exact lw_hospital hL hst C0 hG h4 hI hc2 hs2 hl K
      by_cases c108 : v = 8
      · refine lv_tableIn (off := 380) (tgt := 412) hx hb dL_law_32 (by rw [iN_t rv]; omega) (by rw [iN_t rv]; omega) (by rw [iN_t rv, c108]; rfl) (by decide) ?_
        exact lw_cost hL hst C0 hG h4 hI hc2 hs2 hl K
      by_cases c109 : v = 9
      · refine lv_tableIn (off := 413) (tgt := 445) hx hb dL_law_32 (by rw [iN_t rv]; omega) (by rw [iN_t rv]; omega) (by rw [iN_t rv, c109]; rfl) (by decide) ?_
        exact lw_cheapest hL hst C0 hG h4 hI hc2 hs2 hl K
      by_cases c110 : v = 10
      · refine lv_tableIn (off := 436) (tgt := 468) hx hb dL_law_32 (by rw [iN_t rv]; omega) (by rw [iN_t rv]; omega) (by rw [iN_t rv, c110]; rfl) (by decide) ?_
        exact lw_bound hL hst C0 hG h4 hI hc2 hs2 hl K
      by_cases c111 : v = 11
      · refine lv_tableIn (off := 479) (tgt := 511) hx hb dL_law_32 (by rw [iN_t rv]; omega) (by rw [iN_t rv]; omega) (by rw [iN_t rv, c111]; rfl) (by decide) ?_
        exact lw_behind hL hst C0 hG h4 hI hc2 hs2 hl K
      by_cases c112 : v = 12
      · refine lv_tableIn (off := 512) (tgt := 544) hx hb dL_law_32 (by rw [iN_t rv]; omega) (by rw [iN_t rv]; omega) (by rw [iN_t rv, c112]; rfl) (by decide) ?_
        exact lw_rotation hL hst C0 hG h4 hI hc2 hs2 hl K
      by_cases c113 : v = 13
      · refine lv_tableIn (off := 555) (tgt := 587) hx hb dL_law_32 (by rw [iN_t rv]; omega) (by rw [iN_t rv]; omega) (by rw [iN_t rv, c113]; rfl) (by decide) ?_
        exact lw_done hL hst C0 hG h4 hI hc2 hs2 hl K
      by_cases c114 : v = 14
      · refine lv_tableIn (off := 588) (tgt := 620) hx hb dL_law_32 (by rw [iN_t rv]; omega) (by rw [iN_t rv]; omega) (by rw [iN_t rv, c114]; rfl) (by decide) ?_
        exact lw_before hL hst C0 hG h4 hI hc2 hs2 hl K
      by_cases c115 : v = 15
      · refine lv_tableIn (off := 621) (tgt := 653) hx hb dL_law_32 (by rw [iN_t rv]; omega) (by rw [iN_t rv]; omega) (by rw [iN_t rv, c115]; rfl) (by decide) ?_
        exact lw_tell hL hst C0 hG h4 hI hc2 hs2 hl K
      by_cases c116 : v = 16
      · refine lv_tableIn (off := 665) (tgt := 697) hx hb dL_law_32 (by rw [iN_t rv]; omega) (by rw [iN_t rv]; omega) (by rw [iN_t rv, c116]; rfl) (by decide) ?_
        exact lw_take hL hst C0 hG h4 hI hc2 hs2 hl K
      by_cases c117 : v = 17
      · refine lv_tableIn (off := 699) (tgt := 731) hx hb dL_law_32 (by rw [iN_t rv]; omega) (by rw [iN_t rv]; omega) (by rw [iN_t rv, c117]; rfl) (by decide) ?_
        exact lw_fits hL hst C0 hG h4 hI hc2 hs2 hl K
      by_cases c118 : v = 18
      · refine lv_tableIn (off := 712) (tgt := 744) hx hb dL_law_32 (by rw [iN_t rv]; omega) (by rw [iN_t rv]; omega) (by rw [iN_t rv, c118]; rfl) (by decide) ?_
        exact lw_blocks hL hst C0 hG h4 hI hc2 hs2 hl K
      by_cases c119 : v = 19
      · refine lv_tableIn (off := 725) (tgt := 757) hx hb dL_law_32 (by rw [iN_t rv]; omega) (by rw [iN_t rv]; omega) (by rw [iN_t rv, c119]; rfl) (by decide) ?_
        exact lw_blocking hL hst C0 hG h4 hI hc2 hs2 hl K
      by_cases c120 : v = 20
      · refine lv_tableIn (off := 748) (tgt := 780) hx hb dL_law_32 (by rw [iN_t rv]; omega) (by rw [iN_t rv]; omega) (by rw [iN_t rv, c120]; rfl) (by decide) ?_
        exact lw_which hL hst C0 hG h4 hI hc2 hs2 hl K
      by_cases c121 : v = 21
      · refine lv_tableIn (off := 761) (tgt := 793) hx hb dL_law_32 (by rw [iN_t rv]; omega) (by rw [iN_t rv]; omega) (by rw [iN_t rv, c121]; rfl) (by decide) ?_
        exact lw_check hL hst C0 hG h4 hI hc2 hs2 hl K
      refine lv_tableOut (tgt := 806) hx hb dL_law_32 (by rw [iN_t rv]; omega) (by decide) ?_
      exact K H locs ls σ τ _ _ (Nat.le_add_right _ _) (Nat.le_add_right _ _) hI hl
