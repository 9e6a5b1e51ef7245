/-! THE LAW, from its entry -/
set_option maxHeartbeats 4000000 in
set_option maxRecDepth 100000 in
theorem whole_start {p : Program} {e : Env} {s : State} {m : MethodId} {below : List Frame} {meth : Method} {c : Code} (l : Launch) (hst : l.stackTraces = false) {b L : Nat} {xs : Nat → Int32} (hL : L ≤ 2048) (C0 : lw_At p s m meth c b L xs) : W p l e room_1 s m #[Value.ref b] below meth c s.heap [] 0 0 (lw_Z below #[Value.ref b] s) (entryFrame m ([Value.ref b] : List Value).toArray 5) := by
  obtain ⟨hx, hb, hr, hml, hown, hts0, hX, hbl, hlocks, hgv⟩ := id C0
  have hts : ∀ w ∈ wsL_law, w.before #[Value.ref b] s = true := fun w h => hts0 w (wsL_law_in w h)
  have hA : ∀ q : Nat, s.heap.size ≤ q → A0 s q := fun _ h => h
  obtain ⟨dC, dI, hKc⟩ := lwKn hts0
  obtain ⟨cI, cA, hKt⟩ := lwTy hts0
  have hK : va_K (dC, dI) vwCl (tyL cI cA) s := ⟨hKc, hKt⟩
  have hN : NW s := lwNW hts0
  have hM : MK s := lwMK hts0
  have hW : XW s := lwXW hts0 hgv
  have hU := lwZU hts0 hgv
  have hZ := lwZS hts0 hgv
  have hS : va_S (A0 s) s.heap s.heap [] := va_S.rf
  have hP : va_P (dC, dI) vwCl [] s.heap := fun k q h => by simp at h
  have hD : va_D (A0 s) [] := ⟨fun i j p q h => by simp at h, fun k q h => by simp at h⟩
  have hl := lv_entry ([.ref b]) (n := 5) (Nat.le_of_ble_eq_true rfl)
  rw [lg_entry_eq]
  generalize (lg_sl ([.ref b]) ++ List.replicate (5 - (lg_sl ([.ref b])).length) Slot.unset).toArray = ls at hl ⊢
  have hl : lv_has ls 5 [(0, .ref b)] := hl
  refine va_new (ci := 6) (fs := [.null, .null, .null, .null, .null, .null]) (C := RX6) (T := TX6) (N := 6) hx hb hts0 inX6 tyX6 tyX6_ok hown (hts0 (.classLink RL 8 RX6) (by decide +kernel)) (hts0 (.instantiable RX6 6) (by decide +kernel)) (hts0 (.initialized RX6) (by decide +kernel)) hK hP hD hS hA rfl (fun j hj => by rcases (show j = 0 ∨ j = 1 ∨ j = 2 ∨ j = 3 ∨ j = 4 ∨ j = 5 by omega) with rfl | rfl | rfl | rfl | rfl | rfl <;> rfl) (by decide) (by decide) dL_law_0 (fun h0 H hP hD hS => ?_)
  have hP : va_P (dC, dI) vwCl [(h0, .inr (6, [.null, .null, .null, .null, .null, .null]))] H := hP
  have hD : va_D (A0 s) [(h0, .inr (6, [.null, .null, .null, .null, .null, .null]))] := hD
  refine lv_dup hx hb dL_law_3 rfl ?_
  refine x_callI (va_runI (As := []) (rest := [.ref h0]) ⟨hx, hb, hml, hown, hts⟩ (jX6 l dC dI cI cA (A0 s) h0) (cwI 0 hts gL_law_X6_init rfl rfl rfl (hts0 (.initialized RX6) (by decide +kernel)) (hts0 (.methodLink RL 27 yX6_init) (by decide +kernel)) (hts0 (.instanceMethod yX6_init) (by decide +kernel)) rfl hX6_init_d ⟨by decide, by decide⟩) (psI hP hD hK hN hM (fun q hq => hA q (Nat.le_trans hS.1 hq))) rfl rfl hl.1 rfl (lv_room (Nat.le_of_ble_eq_true rfl)) dL_law_4 ⟨by decide, by decide⟩) hS (fun H locs hB hS => ?_)
  obtain ⟨a, σ, ha0, hz, hR, hP9, hap⟩ := hB
  subst ha0
  refine lv_astore_n (lv' := [(1, .ref (a 0)), (0, .ref b)]) hx hb dL_law_7 rfl hl (by decide) rfl (fun ls hl => ?_)
  have hD9 : va_D (A0 s) (gw 37 a (cE cI cA a) σ) := apD_to hap
  have h37 : (gw 37 a (cE cI cA a) σ).length = 37 := by simp [gw]
  refine va_new (ci := 7) (fs := [.int 0, .int 0, .int 0, .null, .null, .null, .null, .int 0, .int 0, .null, .int 0, .null, .null, .null, .null, .null, .null]) (C := RX7) (T := TX7) (N := 17) hx hb hts0 inX7 tyX7 tyX7_ok hown (hts0 (.classLink RL 28 RX7) (by decide +kernel)) (hts0 (.instantiable RX7 17) (by decide +kernel)) (hts0 (.initialized RX7) (by decide +kernel)) hK hP9 hD9 hS hA rfl (fun j hj => by rcases (show j = 0 ∨ j = 1 ∨ j = 2 ∨ j = 3 ∨ j = 4 ∨ j = 5 ∨ j = 6 ∨ j = 7 ∨ j = 8 ∨ j = 9 ∨ j = 10 ∨ j = 11 ∨ j = 12 ∨ j = 13 ∨ j = 14 ∨ j = 15 ∨ j = 16 by omega) with rfl | rfl | rfl | rfl | rfl | rfl | rfl | rfl | rfl | rfl | rfl | rfl | rfl | rfl | rfl | rfl | rfl <;> rfl) (by decide) (by decide) dL_law_8 (fun h1 H hP2 hD2 hS => ?_)
  have hPc : va_P (dC, dI) vwCl (gw 37 a (cE cI cA a) σ) H := fun k q hk => hP2 k q (by rw [List.getElem?_append_left (List.getElem?_eq_some_iff.mp hk).1]; exact hk)
  have at37 : (gw 37 a (cE cI cA a) σ ++ [(h1, (.inr (7, [.int 0, .int 0, .int 0, .null, .null, .null, .null, .int 0, .int 0, .null, .int 0, .null, .null, .null, .null, .null, .null]) : va_E))])[37]? = some (h1, .inr (7, [.int 0, .int 0, .int 0, .null, .null, .null, .null, .int 0, .int 0, .null, .int 0, .null, .null, .null, .null, .null, .null])) := by rw [List.getElem?_append_right (by omega), h37]; rfl
  have hPm : va_P (dC, dI) vwCl [(h1, .inr (7, [.int 0, .int 0, .int 0, .null, .null, .null, .null, .int 0, .int 0, .null, .int 0, .null, .null, .null, .null, .null, .null]))] H := fun k q hk => by
    have h9 := (List.getElem?_eq_some_iff.mp hk).1
    have h8 : k < 1 := h9
    have e9 : k = 0 := by omega
    subst e9
    cases hk
    exact hP2 37 _ at37
  have hne1 : ∀ i, i < 37 → a i ≠ h1 := fun i hi e9 => by
    have h9 := hD2.1 i 37 (a i, cE cI cA a i (σ i)) _ (by rw [List.getElem?_append_left (by omega)]; exact gw_at i hi rfl) at37 e9
    omega
  have hA1 : A0 s h1 := hD2.2 37 _ at37
  have hlt : ∀ i, i < 37 → a i < H.size := fun i hi => (hPc i _ (gw_at i hi rfl)).lt
  have hDm : va_D (fun q => q = h1 ∨ H.size ≤ q) [(h1, .inr (7, [.int 0, .int 0, .int 0, .null, .null, .null, .null, .int 0, .int 0, .null, .int 0, .null, .null, .null, .null, .null, .null]))] := ⟨fun i j p q hi hj _ => by
    have h9 : i < 1 := (List.getElem?_eq_some_iff.mp hi).1
    have h8 : j < 1 := (List.getElem?_eq_some_iff.mp hj).1
    omega, fun k q hk => by
    have h9 : k < 1 := (List.getElem?_eq_some_iff.mp hk).1
    have e9 : k = 0 := by omega
    subst e9
    cases hk
    exact Or.inl rfl⟩
  refine lv_dup hx hb dL_law_11 rfl ?_
  refine x_callIA (A1 := fun q => q = h1 ∨ H.size ≤ q) (fun q hq => hq.elim (fun e9 => by rw [e9]; exact hA1) (fun h9 => Nat.le_trans hS.1 h9)) (va_runI (As := []) (rest := [.ref h1]) ⟨hx, hb, hml, hown, hts⟩ (jX7 l dC dI cI cA (fun q => q = h1 ∨ H.size ≤ q) h1) (cwI 0 hts gL_law_X7_init rfl rfl rfl (hts0 (.initialized RX7) (by decide +kernel)) (hts0 (.methodLink RL 30 yX7_init) (by decide +kernel)) (hts0 (.instanceMethod yX7_init) (by decide +kernel)) rfl hX7_init_d ⟨by decide, by decide⟩) (psI hPm hDm hK hN hM (fun q hq => Or.inr hq)) rfl rfl hl.1 rfl (lv_room (Nat.le_of_ble_eq_true rfl)) dL_law_12 ⟨by decide, by decide⟩) hS (fun H2 locs2 hB hS2 hk2 hz2 => ?_)
  obtain ⟨d, τ, hd0, hq, hR7, hT, hdp⟩ := hB
  subst hd0
  have hne : ∀ i j, i < 37 → j < 12 → a i ≠ d j := fun i j hi hj e9 => by
    rcases hdp.2 j hj with h9 | h9
    · exact hne1 i hi (e9.trans h9)
    · have := hlt i hi
      omega
  have hPc2 : va_P (dC, dI) vwCl (gw 37 a (cE cI cA a) σ) H2 := hPc.kept (fun k q hk => by
    obtain ⟨hk37, e0⟩ := gw_get hk
    have e1 : q.1 = a k := by rw [e0]
    rw [e1]
    exact hk2 (a k) (hlt k hk37) (fun h9 => h9.elim (hne1 k hk37) (fun h8 => Nat.not_lt.mpr h8 (hlt k hk37))))
  have hapd : apD (A0 s) 12 d := ⟨hdp.1, fun k hk => (hdp.2 k hk).elim (fun e9 => by rw [e9]; exact hA1) (fun h9 => Nat.le_trans hS.1 h9)⟩
  refine lv_astore_n (lv' := [(2, .ref (d 0)), (1, .ref (a 0)), (0, .ref b)]) hx hb dL_law_15 rfl hl (by decide) rfl (fun ls hl => ?_)
  refine lv_iconst (v := iN 0) hx hb dL_law_16 rfl ?_
  refine lv_istore_n (lv' := [(3, .int (iN 0)), (2, .ref (d 0)), (1, .ref (a 0)), (0, .ref b)]) hx hb dL_law_17 rfl hl (by decide) rfl (fun ls hl => ?_)
  obtain ⟨⟨z1, z2, z3, z4, z5, z6, z7, z8, z9⟩, z22, z25, z28⟩ := hz
  obtain ⟨q1, q2, q3, q4, q5⟩ := hq
  have hcp : cpI σ τ 1 1 := cpI_new (by omega) z1 z2 z3 z4 z5 z6 z7 z8 z9 z22 z25 z28 q1 q2 q3 q4 q5
  exact law_loop hL hst C0 ⟨hap, hapd, hne, hK, hN, hW, hU, hZ⟩ (L + 1) 0 H2 locs2 ls σ τ _ _ (Nat.zero_le _) (by omega) (by decide) (by decide) ⟨hPc2, hT, hS2, hR, hR7, 1, 1, hcp⟩ (lv_sub hl [3, 2, 1, 0] rfl)
