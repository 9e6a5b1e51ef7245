/-! THE LAW'S START: what the tables' words give -/
section LWW
variable {s : State} {b : Nat}
set_option maxRecDepth 100000 in
theorem lwKn (hts : ∀ w ∈ lw_tbl, w.before #[Value.ref b] s = true) : ∃ (dC : Nat → ClassId) (dI : Nat → Nat → Nat), ∀ (k : Nat) (q : vw_C), vwCl[k]? = some q → u_Kn s q.1 q.2.1 q.2.2 (dC k) (dI k) := by
  obtain ⟨c0, i0, h0⟩ := u_known (C := RX0) (T := TX0) (N := 6) (n := 6) hts inX0 (hts (.instantiable RX0 6) (by decide +kernel))
  obtain ⟨c1, i1, h1⟩ := u_known (C := RX1) (T := TX1) (N := 5) (n := 5) hts inX1 (hts (.instantiable RX1 5) (by decide +kernel))
  obtain ⟨c2, i2, h2⟩ := u_known (C := RX2) (T := TX2) (N := 4) (n := 4) hts inX2 (hts (.instantiable RX2 4) (by decide +kernel))
  obtain ⟨c3, i3, h3⟩ := u_known (C := RX3) (T := TX3) (N := 2) (n := 2) hts inX3 (hts (.instantiable RX3 2) (by decide +kernel))
  obtain ⟨c4, i4, h4⟩ := u_known (C := RX4) (T := TX4) (N := 6) (n := 6) hts inX4 (hts (.instantiable RX4 6) (by decide +kernel))
  obtain ⟨c5, i5, h5⟩ := u_known (C := RX5) (T := TX5) (N := 4) (n := 4) hts inX5 (hts (.instantiable RX5 4) (by decide +kernel))
  obtain ⟨c6, i6, h6⟩ := u_known (C := RX6) (T := TX6) (N := 6) (n := 6) hts inX6 (hts (.instantiable RX6 6) (by decide +kernel))
  obtain ⟨c7, i7, h7⟩ := u_known (C := RX7) (T := TX7) (N := 17) (n := 17) hts inX7 (hts (.instantiable RX7 17) (by decide +kernel))
  refine ⟨fun k => match k with | 0 => c0 | 1 => c1 | 2 => c2 | 3 => c3 | 4 => c4 | 5 => c5 | 6 => c6 | _ => c7, fun k => match k with | 0 => i0 | 1 => i1 | 2 => i2 | 3 => i3 | 4 => i4 | 5 => i5 | 6 => i6 | _ => i7, ?_⟩
  intro k q hq
  match k, hq with
  | 0, hq => cases hq; exact h0
  | 1, hq => cases hq; exact h1
  | 2, hq => cases hq; exact h2
  | 3, hq => cases hq; exact h3
  | 4, hq => cases hq; exact h4
  | 5, hq => cases hq; exact h5
  | 6, hq => cases hq; exact h6
  | 7, hq => cases hq; exact h7
  | k + 8, hq => simp [vwCl] at hq
set_option maxRecDepth 100000 in
theorem lwTy (hts : ∀ w ∈ lw_tbl, w.before #[Value.ref b] s = true) : ∃ cI cA : ClassId, ∀ (k : Nat) (q : ClassId × FieldType), (tyL cI cA)[k]? = some q → ArrOfT s q.1 q.2 ∧ va_RA s q.1 q.2 := by
  obtain ⟨cI, kI, comI, f1, f2, f3⟩ := Cond.arrayClass_spec (hts (.arrayClass .int) (by decide +kernel))
  obtain ⟨com, cA, kA, g0, g1, g2, g3⟩ := Cond.arrayOver_specA (hts (.arrayOver (.array .int)) (by decide +kernel))
  refine ⟨cI, cA, ?_⟩
  intro k q hq
  match k, hq with
  | 0, hq => cases hq; exact ⟨fun n z => ⟨fun k h => (by cases h), kI, f2, comI, f3⟩, f1⟩
  | 1, hq => cases hq; exact ⟨fun n z => ⟨fun k h => (by cases h), kA, g1, com, g2⟩, g3⟩
  | k + 2, hq => simp [tyL] at hq
set_option maxRecDepth 100000 in
theorem nwL_in : ∀ w ∈ nwL, w ∈ lw_tbl := by decide +kernel
set_option maxRecDepth 100000 in
theorem xwL_in : ∀ w ∈ xwL, w ∈ lw_tbl := by decide +kernel
theorem lwNW (hts : ∀ w ∈ lw_tbl, w.before #[Value.ref b] s = true) : NW s := fun w hw => by
  have h9 := hts w (nwL_in w hw)
  obtain ⟨a, i, b', n, d, h', rfl⟩ := nwL_form w hw
  exact va_Nw.of rfl h9
set_option maxRecDepth 100000 in
theorem lwMK (hts : ∀ w ∈ lw_tbl, w.before #[Value.ref b] s = true) : MK s :=
  ⟨hts (.arrayOver (.array .int)) (by decide +kernel), va_Nw.of rfl (hts (.methodLinkNest RX1 11 yX2_init "MatchHall") (by decide +kernel))⟩
set_option maxRecDepth 100000 in
theorem lwXW (hts : ∀ w ∈ lw_tbl, w.before #[Value.ref b] s = true) (hgv : (Jvm.Cond.and given_1 narrow_1).before #[Value.ref b] s = true) : XW s := by
  refine ⟨fun w hw => ?_, ?_⟩
  · have h9 := hts w (xwL_in w hw)
    rcases xwL_form w hw with ⟨a, b', rfl⟩ | ⟨x', rfl⟩
    · exact va_Nw.of rfl h9
    · exact va_Nw.of rfl h9
  · exact va_Nc.of (flat_of_before _ hgv (.not (.castable "java/lang/IllegalArgumentException" "java/lang/IndexOutOfBoundsException")) (by decide +kernel))
set_option maxRecDepth 100000 in
theorem lwZU (hts : ∀ w ∈ lw_tbl, w.before #[Value.ref b] s = true) (hgv : (Jvm.Cond.and given_1 narrow_1).before #[Value.ref b] s = true) : zqU (A0 s) s s.heap :=
  vx_Zqof (hts (.laysStatic Bundle.tN "UNASSIGNED_STACK" Bundle.steD) (by decide +kernel)) (hts (.initialized Bundle.tN) (by decide +kernel)) (flat_of_before _ hgv (.isRef (.static Bundle.tN "UNASSIGNED_STACK" Bundle.steD)) (by decide +kernel)) (fun _ h => Nat.not_le.mpr h)
set_option maxRecDepth 100000 in
theorem lwZS (hts : ∀ w ∈ lw_tbl, w.before #[Value.ref b] s = true) (hgv : (Jvm.Cond.and given_1 narrow_1).before #[Value.ref b] s = true) : zqS (A0 s) s s.heap :=
  vx_Zqof (hts (.laysStatic Bundle.tN "SUPPRESSED_SENTINEL" Bundle.listD) (by decide +kernel)) (hts (.initialized Bundle.tN) (by decide +kernel)) (flat_of_before _ hgv (.isRef (.static Bundle.tN "SUPPRESSED_SENTINEL" Bundle.listD)) (by decide +kernel)) (fun _ h => Nat.not_le.mpr h)
end LWW
