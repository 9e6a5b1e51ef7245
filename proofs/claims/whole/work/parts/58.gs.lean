/-! PURE THEORY 4: deferred acceptance: each asks in the order of its list; a hospital keeps the best -/
theorem mh_at_up {n : Nat} {f : Int → Int} {r x h : Int} (r0 : 0 ≤ r) (r1 : r < n) : mh_at n (mh_up f r x) h = mh_at n f h + (if x = h then 1 else 0) - (if f r = h then 1 else 0) := by
  unfold mh_at
  induction n with
  | zero => omega
  | succ n ih =>
    simp only [mh_c, decide_eq_true_eq]
    by_cases e : r = n
    · have hc : mh_c (fun q => decide (mh_up f r x q = h)) n = mh_c (fun q => decide (f q = h)) n := mh_c_congr (fun q q0 q1 => by
        have z : mh_up f r x q = f q := by simp only [mh_up]; rw [if_neg (by omega)]
        simp only [z])
      have hu : mh_up f r x (n : Int) = x := by simp only [mh_up]; rw [if_pos e.symm]
      subst e
      simp only [hc, hu]
      omega
    · have hu : mh_up f r x (n : Int) = f n := by simp only [mh_up]; rw [if_neg (fun z => e z.symm)]
      have := ih (by omega)
      simp only [hu]
      omega
def mh_G (n m : Nat) (rk hk : Int → Int → Int) (cp f ask : Int → Int) : Prop :=
  (∀ r : Int, 0 ≤ r → r < n → f r = -1 ∨ (0 ≤ f r ∧ f r < m ∧ mh_pr rk hk r (f r) ∧ rk r (f r) < ask r)) ∧
  (∀ h : Int, 0 ≤ h → h < m → mh_at n f h ≤ cp h) ∧
  (∀ r h : Int, 0 ≤ r → r < n → 0 ≤ h → h < m → mh_pr rk hk r h → rk r h < ask r → f r ≠ h →
    cp h ≤ mh_at n f h ∧ (∀ o : Int, 0 ≤ o → o < n → f o = h → hk h o < hk h r) ∧ ∀ g : Int → Int, mh_stb n m rk hk cp g → g r ≠ h)
section MHG
variable {n m : Nat} {rk hk : Int → Int → Int} {cp f ask : Int → Int}
/-- at the start nobody has asked -/
theorem mh_G0 (hcp : ∀ h : Int, 0 ≤ h → h < m → 0 ≤ cp h) (hrk : ∀ r h : Int, 0 ≤ r → r < n → 0 ≤ h → h < m → rk r h = -1 ∨ 0 ≤ rk r h) : mh_G n m rk hk cp (fun _ => -1) (fun _ => 0) := by
  refine ⟨fun r _ _ => Or.inl rfl, fun h h0 h1 => ?_, fun r h r0 r1 h0 h1 hp hl _ => ?_⟩
  · have : mh_at n (fun _ => -1) h = 0 := mh_c_zero (fun _ _ _ => by simp; omega)
    rw [this]; exact hcp h h0 h1
  · have a1 := hrk r h r0 r1 h0 h1
    have a2 := hp.1
    have a3 : rk r h < 0 := hl
    omega
/-- who stands last is put off -/
theorem mh_G_drop (hi : mh_inj n m rk hk) (G : mh_G n m rk hk cp f ask) {r h l : Int} (r0 : 0 ≤ r) (r1 : r < n) (h0 : 0 ≤ h) (h1 : h < m) (fr : f r = -1) (hp : mh_pr rk hk r h) (ha : rk r h = ask r)
    (full : cp h < mh_at n (mh_up f r h) h) (l0 : 0 ≤ l) (l1 : l < n) (lm : mh_up f r h l = h) (lw : ∀ o : Int, 0 ≤ o → o < n → mh_up f r h o = h → o ≠ l → hk h o < hk h l) :
    mh_G n m rk hk cp (mh_up (mh_up f r h) l (-1)) (mh_up ask r (ask r + 1)) := by
  obtain ⟨G1, G2, G3⟩ := G
  have c1 := mh_at_up (f := f) (r := r) (x := h) (h := h) r0 r1
  rw [if_pos rfl, if_neg (by omega)] at c1
  have c2 := mh_at_up (f := mh_up f r h) (r := l) (x := -1) (h := h) l0 l1
  rw [if_neg (by omega), if_pos lm] at c2
  have g2 := G2 h h0 h1
  have other : ∀ h' : Int, 0 ≤ h' → h' ≠ h → ∀ o : Int, (mh_up (mh_up f r h) l (-1) o = h' ↔ f o = h') := fun h' z0 z1 o => by
    simp only [mh_up] at lm ⊢
    by_cases e1 : o = l
    · subst e1
      rw [if_pos rfl]
      by_cases e2 : o = r
      · subst e2; omega
      · rw [if_neg e2] at lm; omega
    · rw [if_neg e1]
      by_cases e2 : o = r
      · subst e2; rw [if_pos rfl]; omega
      · rw [if_neg e2]
  -- who is at h now
  have here : ∀ o : Int, mh_up (mh_up f r h) l (-1) o = h → o ≠ l ∧ mh_up f r h o = h := fun o z => by
    by_cases e1 : o = l
    · subst e1; simp only [mh_up, if_true] at z; omega
    · have : mh_up (mh_up f r h) l (-1) o = mh_up f r h o := by
        show (if o = l then -1 else mh_up f r h o) = _
        rw [if_neg e1]
      rw [this] at z
      exact ⟨e1, z⟩
  refine ⟨fun q q0 q1 => ?_, fun h' z0 z1 => ?_, fun q h' q0 q1 z0 z1 hq hl hne => ?_⟩
  · by_cases e1 : q = l
    · left; simp only [mh_up]; rw [if_pos e1]
    · by_cases e2 : q = r
      · right
        have : mh_up (mh_up f r h) l (-1) q = h := by simp only [mh_up]; rw [if_neg e1, if_pos e2]
        rw [this]
        refine ⟨h0, h1, by rw [e2]; exact hp, ?_⟩
        simp only [mh_up]; rw [if_pos e2, e2]; omega
      · have : mh_up (mh_up f r h) l (-1) q = f q := by simp only [mh_up]; rw [if_neg e1, if_neg e2]
        rw [this]
        have : mh_up ask r (ask r + 1) q = ask q := by simp only [mh_up]; rw [if_neg e2]
        rw [this]
        exact G1 q q0 q1
  · by_cases e : h' = h
    · subst e; omega
    · rw [mh_at_congr (g := f) (fun o _ _ => other h' z0 e o)]
      exact G2 h' z0 z1
  · by_cases e : h' = h
    · subst e
      -- put off by this hospital: q is the last one, or was put off before
      have before : q ≠ l → (cp h' ≤ mh_at n f h' ∧ (∀ o : Int, 0 ≤ o → o < n → f o = h' → hk h' o < hk h' q) ∧ ∀ g : Int → Int, mh_stb n m rk hk cp g → g q ≠ h') := fun e1 => by
        have e2 : q ≠ r := fun z => by
          subst z
          apply hne
          simp only [mh_up, if_true]; rw [if_neg e1]
        have s1 : mh_up ask r (ask r + 1) q = ask q := by simp only [mh_up]; rw [if_neg e2]
        have s2 : mh_up (mh_up f r h') l (-1) q = f q := by simp only [mh_up]; rw [if_neg e1, if_neg e2]
        rw [s1] at hl
        rw [s2] at hne
        exact G3 q h' q0 q1 z0 z1 hq hl hne
      refine ⟨by omega, fun o o0 o1 ho => ?_, fun g hg hgq => ?_⟩
      · obtain ⟨a1, a2⟩ := here o ho
        have b1 := lw o o0 o1 a2 a1
        by_cases e1 : q = l
        · rw [e1]; exact b1
        · have B := before e1
          by_cases e2 : l = r
          · -- the last one is the new one: those that stay were there before
            have : f o = h' := by
              simp only [mh_up] at a2
              rw [if_neg (by rw [← e2]; exact a1)] at a2
              exact a2
            exact B.2.1 o o0 o1 this
          · have fl : f l = h' := by
              simp only [mh_up] at lm
              rw [if_neg e2] at lm
              exact lm
            have := B.2.1 l l0 l1 fl
            omega
      · by_cases e1 : q = l
        · subst e1
          -- a stable g with the last one at h: one that is at h has no place there
          have ex : ∃ o : Int, 0 ≤ o ∧ o < n ∧ mh_up f r h' o = h' ∧ o ≠ q ∧ g o ≠ h' := by
            refine Classical.byContradiction fun w => ?_
            have sub : mh_at n (mh_up f r h') h' ≤ mh_at n g h' := mh_c_mono (fun o o0 o1 ho => by
              simp only [decide_eq_true_eq] at ho ⊢
              by_cases e3 : o = q
              · rw [e3]; exact hgq
              · exact Classical.byContradiction fun w2 => w ⟨o, o0, o1, ho, e3, w2⟩)
            have := hg.1.2 h' z0 z1
            omega
          obtain ⟨o, o0, o1, om, oq, og⟩ := ex
          have b1 := lw o o0 o1 om oq
          -- o and h are a pair; all that o has before h are not its own by g
          have op : mh_pr rk hk o h' ∧ (∀ h2 : Int, 0 ≤ h2 → h2 < m → mh_pr rk hk o h2 → rk o h2 < rk o h' → g o ≠ h2) := by
            by_cases e3 : o = r
            · subst e3
              refine ⟨hp, fun h2 y0 y1 y2 y3 => ?_⟩
              exact (G3 o h2 o0 o1 y0 y1 y2 (by omega) (by rw [fr]; omega)).2.2 g hg
            · have fo : f o = h' := by
                simp only [mh_up] at om
                rw [if_neg e3] at om
                exact om
              rcases G1 o o0 o1 with y | ⟨y1, y2, y3, y4⟩
              · omega
              · rw [fo] at y3 y4
                refine ⟨y3, fun h2 w0 w1 w2 w3 => ?_⟩
                refine (G3 o h2 o0 o1 w0 w1 w2 (by omega) (fun z => ?_)).2.2 g hg
                rw [fo] at z; rw [z] at w3; omega
          have og2 : g o = -1 ∨ rk o h' < rk o (g o) := by
            rcases hg.1.1 o o0 o1 with y | ⟨y1, y2, y3⟩
            · exact Or.inl y
            · right
              rcases Int.lt_trichotomy (rk o h') (rk o (g o)) with c | c | c
              · exact c
              · exact absurd (hi.1 o h' (g o) o0 o1 z0 z1 y1 y2 op.1.1 c).symm og
              · exact absurd rfl (op.2 (g o) y1 y2 y3 c)
          exact hg.2 o h' o0 o1 z0 z1 ⟨op.1, og2, Or.inr ⟨q, l0, l1, hgq, b1⟩⟩
        · exact (before e1).2.2 g hg hgq
    · -- another hospital: nothing has changed there
      have s : cp h' ≤ mh_at n f h' ∧ (∀ o : Int, 0 ≤ o → o < n → f o = h' → hk h' o < hk h' q) ∧ ∀ g : Int → Int, mh_stb n m rk hk cp g → g q ≠ h' := by
        refine G3 q h' q0 q1 z0 z1 hq ?_ (fun z => hne ((other h' z0 e q).mpr z))
        simp only [mh_up] at hl
        by_cases e2 : q = r
        · subst e2
          rw [if_pos rfl] at hl
          rcases Int.lt_trichotomy (rk q h') (ask q) with c | c | c
          · exact c
          · exact absurd (hi.1 q h' h q0 q1 z0 z1 h0 h1 hq.1 (by omega)) e
          · omega
        · rw [if_neg e2] at hl; exact hl
      rw [mh_at_congr (g := f) (fun o _ _ => other h' z0 e o)]
      exact ⟨s.1, fun o o0 o1 ho => s.2.1 o o0 o1 ((other h' z0 e o).mp ho), s.2.2⟩
/-- there is a seat -/
theorem mh_G_seat (hi : mh_inj n m rk hk) (G : mh_G n m rk hk cp f ask) {r h : Int} (r0 : 0 ≤ r) (r1 : r < n) (h0 : 0 ≤ h) (h1 : h < m) (fr : f r = -1) (hp : mh_pr rk hk r h) (ha : rk r h = ask r)
    (room : ¬ cp h < mh_at n (mh_up f r h) h) : mh_G n m rk hk cp (mh_up f r h) (mh_up ask r (ask r + 1)) := by
  obtain ⟨G1, G2, G3⟩ := G
  have c1 := mh_at_up (f := f) (r := r) (x := h) (h := h) r0 r1
  rw [if_pos rfl, if_neg (by omega)] at c1
  have other : ∀ h' : Int, 0 ≤ h' → h' ≠ h → ∀ o : Int, (mh_up f r h o = h' ↔ f o = h') := fun h' z0 z1 o => by
    simp only [mh_up]
    by_cases e2 : o = r
    · subst e2; rw [if_pos rfl]; omega
    · rw [if_neg e2]
  refine ⟨fun q q0 q1 => ?_, fun h' z0 z1 => ?_, fun q h' q0 q1 z0 z1 hq hl hne => ?_⟩
  · by_cases e2 : q = r
    · right
      have : mh_up f r h q = h := by simp only [mh_up]; rw [if_pos e2]
      rw [this]
      refine ⟨h0, h1, by rw [e2]; exact hp, ?_⟩
      simp only [mh_up]; rw [if_pos e2, e2]; omega
    · have : mh_up f r h q = f q := by simp only [mh_up]; rw [if_neg e2]
      rw [this]
      have : mh_up ask r (ask r + 1) q = ask q := by simp only [mh_up]; rw [if_neg e2]
      rw [this]
      exact G1 q q0 q1
  · by_cases e : h' = h
    · subst e; omega
    · rw [mh_at_congr (g := f) (fun o _ _ => other h' z0 e o)]
      exact G2 h' z0 z1
  · have e2 : h' = h → q ≠ r := fun e z => by
      subst z; apply hne; simp only [mh_up, if_true]; exact e.symm
    have s : cp h' ≤ mh_at n f h' ∧ (∀ o : Int, 0 ≤ o → o < n → f o = h' → hk h' o < hk h' q) ∧ ∀ g : Int → Int, mh_stb n m rk hk cp g → g q ≠ h' := by
      refine G3 q h' q0 q1 z0 z1 hq ?_ (fun z => ?_)
      · simp only [mh_up] at hl
        by_cases e3 : q = r
        · subst e3
          rw [if_pos rfl] at hl
          rcases Int.lt_trichotomy (rk q h') (ask q) with c | c | c
          · exact c
          · exact absurd rfl (e2 (hi.1 q h' h q0 q1 z0 z1 h0 h1 hq.1 (by omega)))
          · omega
        · rw [if_neg e3] at hl; exact hl
      · by_cases e3 : q = r
        · subst e3; omega
        · apply hne; simp only [mh_up]; rw [if_neg e3]; exact z
    by_cases e : h' = h
    · subst e; have := s.1; omega
    · rw [mh_at_congr (g := f) (fun o _ _ => other h' z0 e o)]
      exact ⟨s.1, fun o o0 o1 ho => s.2.1 o o0 o1 ((other h' z0 e o).mp ho), s.2.2⟩
/-- asked in vain: not a pair -/
theorem mh_G_vain (hi : mh_inj n m rk hk) (G : mh_G n m rk hk cp f ask) {r h : Int} (r0 : 0 ≤ r) (r1 : r < n) (h0 : 0 ≤ h) (h1 : h < m) (hp : ¬ mh_pr rk hk r h) (ha : rk r h = ask r) (h9 : rk r h ≠ -1) : mh_G n m rk hk cp f (mh_up ask r (ask r + 1)) := by
  obtain ⟨G1, G2, G3⟩ := G
  refine ⟨fun q q0 q1 => ?_, G2, fun q h' q0 q1 z0 z1 hq hl hne => ?_⟩
  · rcases G1 q q0 q1 with y | ⟨y1, y2, y3, y4⟩
    · exact Or.inl y
    · refine Or.inr ⟨y1, y2, y3, ?_⟩
      simp only [mh_up]
      by_cases e : q = r
      · subst e; rw [if_pos rfl]; omega
      · rw [if_neg e]; exact y4
  · refine G3 q h' q0 q1 z0 z1 hq ?_ hne
    simp only [mh_up] at hl
    by_cases e : q = r
    · subst e
      rw [if_pos rfl] at hl
      rcases Int.lt_trichotomy (rk q h') (ask q) with c | c | c
      · exact c
      · have := hi.1 q h' h q0 q1 z0 z1 h0 h1 hq.1 (by omega)
        subst this
        exact absurd hq hp
      · omega
    · rw [if_neg e] at hl; exact hl
/-- nobody asks any more: it is stable, and best for each -/
theorem mh_G_end (G : mh_G n m rk hk cp f ask) (fin : ∀ r h : Int, 0 ≤ r → r < n → 0 ≤ h → h < m → f r = -1 → rk r h ≠ -1 → rk r h < ask r) :
    mh_stb n m rk hk cp f ∧ ∀ g : Int → Int, mh_stb n m rk hk cp g → ∀ r : Int, 0 ≤ r → r < n → f r ≠ -1 → g r ≠ -1 → rk r (f r) ≤ rk r (g r) := by
  obtain ⟨G1, G2, G3⟩ := G
  refine ⟨⟨⟨fun r r0 r1 => ?_, G2⟩, fun r h r0 r1 h0 h1 B => ?_⟩, fun g hg r r0 r1 fr gr => ?_⟩
  · rcases G1 r r0 r1 with y | ⟨y1, y2, y3, -⟩
    · exact Or.inl y
    · exact Or.inr ⟨y1, y2, y3⟩
  · obtain ⟨B1, B2, B3⟩ := B
    have s := G3 r h r0 r1 h0 h1 B1 (by
      rcases B2 with z | z
      · exact fin r h r0 r1 h0 h1 z B1.1
      · rcases G1 r r0 r1 with y | ⟨y1, y2, y3, y4⟩
        · exact fin r h r0 r1 h0 h1 y B1.1
        · omega) (fun z => by
      rcases B2 with w | w
      · omega
      · rw [z] at w; omega)
    rcases B3 with z | ⟨o, o0, o1, z1, z2⟩
    · omega
    · have := s.2.1 o o0 o1 z1; omega
  · rcases Int.lt_or_le (rk r (g r)) (rk r (f r)) with c | c
    · exfalso
      rcases hg.1.1 r r0 r1 with y | ⟨y1, y2, y3⟩
      · exact gr y
      · rcases G1 r r0 r1 with w | ⟨w1, w2, w3, w4⟩
        · exact fr w
        · exact (G3 r (g r) r0 r1 y1 y2 y3 (by omega) (fun z => by rw [z] at c; omega)).2.2 g hg rfl
    · exact c
end MHG
