/-! OWN ROWS: numbers as Int (iN z), a world by its cells' numbers (gw), rows of the kit said over both -/
def iN (z : Int) : Int32 := Int32.ofInt z
abbrev rng (z : Int) : Prop := -2147483648 ≤ z ∧ z < 2147483648
theorem iN_t {z : Int} (h : rng z) : (iN z).toInt = z := by
  unfold iN
  exact Int32.toInt_ofInt_of_le (by have := h.1; omega) (by have := h.2; omega)
theorem iN_of (x : Int32) : iN x.toInt = x := Int32.ofInt_toInt x
theorem iN_rng (x : Int32) : rng x.toInt := ⟨by have := Int32.le_toInt x; omega, by have := Int32.toInt_lt x; omega⟩
theorem iN_add (a b : Int) : iN a + iN b = iN (a + b) := (Int32.ofInt_add a b).symm
theorem iN_sub (a b : Int) : iN a - iN b = iN (a - b) := (Int32.ofInt_sub a b).symm
theorem iN_mul (a b : Int) : iN a * iN b = iN (a * b) := (Int32.ofInt_mul a b).symm
theorem iN_eq {a b : Int} (ha : rng a) (hb : rng b) : iN a = iN b ↔ a = b := by
  rw [← Int32.toInt_inj, iN_t ha, iN_t hb]
theorem iN_lt {a b : Int} (ha : rng a) (hb : rng b) : iN a < iN b ↔ a < b := by
  rw [Int32.lt_iff_toInt_lt, iN_t ha, iN_t hb]
theorem iN_le {a b : Int} (ha : rng a) (hb : rng b) : iN a ≤ iN b ↔ a ≤ b := by
  rw [Int32.le_iff_toInt_le, iN_t ha, iN_t hb]
theorem iN_0 : iN 0 = 0 := rfl
theorem rng_0 : rng 0 := by decide
theorem iN_in {e : Int} {n : Nat} (h : 0 ≤ e ∧ e < n) (hn : n < 2147483648) : vp_in (iN e) n := by
  rw [vp_in_iff, iN_t ⟨by omega, by omega⟩]
  exact h
theorem iN_cl {e : Int} (h0 : 0 ≤ e) (h1 : e < 2147483648) : (iN e).toNatClampNeg = e.toNat := by
  have : (iN e).toInt = e := iN_t ⟨by omega, by omega⟩
  show (iN e).toInt.toNat = e.toNat
  rw [this]
/-- what is behind 'if c then x else none' -/
theorem gd {α : Type} {c : Prop} [Decidable c] {x : Option α} {r : α} (h : (if c then x else none) = some r) : c ∧ x = some r := by
  by_cases hc : c
  · rw [if_pos hc] at h; exact ⟨hc, h⟩
  · rw [if_neg hc] at h; cases h
theorem bd {α β : Type} {o : Option α} {f : α → Option β} {r : β} (h : o.bind f = some r) : ∃ v, o = some v ∧ f v = some r := by
  cases o with
  | none => cases h
  | some v => exact ⟨v, rfl, h⟩
/-- cells by their numbers: what each holds -/
abbrev Mem : Type := Nat → Int → Int
def Rg (σ : Mem) : Prop := ∀ k j, rng (σ k j)
def mup (σ : Mem) (k : Nat) (j x : Int) : Mem := fun k' => if k' = k then mh_up (σ k) j x else σ k'
theorem mup_eq (σ : Mem) (k : Nat) (j x : Int) : mup σ k j x k = mh_up (σ k) j x := if_pos rfl
theorem mup_ne (σ : Mem) {k k' : Nat} (j x : Int) (h : k' ≠ k) : mup σ k j x k' = σ k' := if_neg h
theorem Rg_up {σ : Mem} {k : Nat} {j x : Int} (h : Rg σ) (hx : rng x) : Rg (mup σ k j x) := by
  intro k' j'
  unfold mup
  split
  · unfold mh_up; split
    · exact hx
    · exact h k j'
  · exact h k' j'
/-- a world: N cells at the addresses a, each as E says of what it holds -/
def gw (N : Nat) (a : Nat → Nat) (E : Nat → (Int → Int) → va_E) (σ : Mem) : va_W := (List.range N).map (fun k => (a k, E k (σ k)))
theorem gw_at {N : Nat} {a : Nat → Nat} {E : Nat → (Int → Int) → va_E} {σ : Mem} (k : Nat) (h : k < N) {e : va_E} (he : E k (σ k) = e) : (gw N a E σ)[k]? = some (a k, e) := by
  subst he
  simp [gw, h]
theorem gw_set {N : Nat} {a : Nat → Nat} {E : Nat → (Int → Int) → va_E} {σ : Mem} {k : Nat} {j x : Int} {e : va_E} (he : E k (mh_up (σ k) j x) = e) : (gw N a E σ).set k (a k, e) = gw N a E (mup σ k j x) := by
  subst he
  apply List.ext_getElem?
  intro i
  rw [List.getElem?_set]
  by_cases hi : k = i
  · subst hi
    simp only [gw, List.length_map, List.length_range, if_true]
    by_cases hk : k < N
    · simp [hk, mup_eq]
    · simp [hk]
  · rw [if_neg hi]
    simp only [gw, List.getElem?_map]
    by_cases hk : i < N
    · simp [hk, mup_ne σ j x (fun z => hi z.symm)]
    · simp [hk]
def gA (N : Nat) (a : Nat → Nat) : Nat → Prop := fun q => ∃ k, k < N ∧ q = a k
theorem gw_D {N : Nat} {a : Nat → Nat} {E : Nat → (Int → Int) → va_E} {σ : Mem} (hi : ∀ i j, i < N → j < N → a i = a j → i = j) : va_D (gA N a) (gw N a E σ) := by
  have at' : ∀ (k : Nat) (q : Nat × va_E), (gw N a E σ)[k]? = some q → k < N ∧ q.1 = a k := by
    intro k q h
    simp only [gw, List.getElem?_map] at h
    by_cases hk : k < N
    · simp [hk] at h; exact ⟨hk, by rw [← h]⟩
    · simp [hk] at h
  refine ⟨fun i j p q h1 h2 e => ?_, fun k q h => ?_⟩
  · obtain ⟨a1, a2⟩ := at' i p h1
    obtain ⟨b1, b2⟩ := at' j q h2
    exact hi i j a1 b1 (by rw [← a2, ← b2, e])
  · obtain ⟨a1, a2⟩ := at' k q h
    exact ⟨k, a1, a2⟩
theorem upd_iN {f : Int → Int} {e x : Int} (h0 : 0 ≤ e) (h1 : e < 2147483648) : upd (fun j : Nat => iN (f j)) (iN e).toNatClampNeg (iN x) = fun j : Nat => iN (mh_up f e x j) := by
  funext j
  rw [iN_cl h0 h1]
  unfold upd mh_up
  by_cases h : j = e.toNat
  · rw [if_pos h, if_pos (by omega)]
  · rw [if_neg h, if_neg (by omega)]
section XR
variable {p : Program} {l : Launch} {e : Env} {R : Room} {s : State} {m : MethodId} {args : Array Value} {below : List Frame} {meth : Method} {c : Code} {H : Heap} {locs : List Loc} {cells slots : Nat} {Q : State → Prop}
variable {cc : ByteArray} {pc : Nat} {ls : Array Slot} {rest : List Value} {D : va_G} {cl : List vw_C} {tys : List (ClassId × FieldType)} {H0 : Heap}
variable {N : Nat} {a : Nat → Nat} {E : Nat → (Int → Int) → va_E} {σ : Mem}
theorem x_iadd (hx : p.tables.exec = Jvm.exec) (hb : c.code = cc) {x y : Int} (hdg : decode cc pc = .ok (.iadd, 1)) (k : W p l e R s m args below meth c H locs cells slots Q (F0 m (pc + 1) ls (.int (iN (x + y)) :: rest))) : W p l e R s m args below meth c H locs cells slots Q (F0 m pc ls (.int (iN y) :: .int (iN x) :: rest)) :=
  lv_iadd hx hb hdg (by rw [iN_add]; exact k)
theorem x_isub (hx : p.tables.exec = Jvm.exec) (hb : c.code = cc) {x y : Int} (hdg : decode cc pc = .ok (.isub, 1)) (k : W p l e R s m args below meth c H locs cells slots Q (F0 m (pc + 1) ls (.int (iN (x - y)) :: rest))) : W p l e R s m args below meth c H locs cells slots Q (F0 m pc ls (.int (iN y) :: .int (iN x) :: rest)) :=
  lv_isub hx hb hdg (by rw [iN_sub]; exact k)
theorem x_imul (hx : p.tables.exec = Jvm.exec) (hb : c.code = cc) {x y : Int} (hdg : decode cc pc = .ok (.imul, 1)) (k : W p l e R s m args below meth c H locs cells slots Q (F0 m (pc + 1) ls (.int (iN (x * y)) :: rest))) : W p l e R s m args below meth c H locs cells slots Q (F0 m pc ls (.int (iN y) :: .int (iN x) :: rest)) :=
  lv_imul hx hb hdg (by rw [iN_mul]; exact k)
theorem x_icmp_eq (hx : p.tables.exec = Jvm.exec) (hb : c.code = cc) {x y : Int} (rx : rng x) (ry : rng y) {off : Int} {tgt : Nat} (hdg : decode cc pc = .ok (.if_icmp .eq off, 3)) (ht : (pc : Int) + off = (tgt : Int)) (kt : x = y → W p l e R s m args below meth c H locs cells slots Q (F0 m tgt ls rest)) (kf : ¬ x = y → W p l e R s m args below meth c H locs cells slots Q (F0 m (pc + 3) ls rest)) : W p l e R s m args below meth c H locs cells slots Q (F0 m pc ls (.int (iN y) :: .int (iN x) :: rest)) :=
  lv_icmp_eq hx hb hdg ht (fun h => kt ((iN_eq rx ry).mp h)) (fun h => kf (fun z => h ((iN_eq rx ry).mpr z)))
theorem x_icmp_ne (hx : p.tables.exec = Jvm.exec) (hb : c.code = cc) {x y : Int} (rx : rng x) (ry : rng y) {off : Int} {tgt : Nat} (hdg : decode cc pc = .ok (.if_icmp .ne off, 3)) (ht : (pc : Int) + off = (tgt : Int)) (kt : ¬ x = y → W p l e R s m args below meth c H locs cells slots Q (F0 m tgt ls rest)) (kf : x = y → W p l e R s m args below meth c H locs cells slots Q (F0 m (pc + 3) ls rest)) : W p l e R s m args below meth c H locs cells slots Q (F0 m pc ls (.int (iN y) :: .int (iN x) :: rest)) :=
  lv_icmp_ne hx hb hdg ht (fun h => kt (fun z => h ((iN_eq rx ry).mpr z))) (fun h => kf ((iN_eq rx ry).mp h))
theorem x_icmp_lt (hx : p.tables.exec = Jvm.exec) (hb : c.code = cc) {x y : Int} (rx : rng x) (ry : rng y) {off : Int} {tgt : Nat} (hdg : decode cc pc = .ok (.if_icmp .lt off, 3)) (ht : (pc : Int) + off = (tgt : Int)) (kt : x < y → W p l e R s m args below meth c H locs cells slots Q (F0 m tgt ls rest)) (kf : ¬ x < y → W p l e R s m args below meth c H locs cells slots Q (F0 m (pc + 3) ls rest)) : W p l e R s m args below meth c H locs cells slots Q (F0 m pc ls (.int (iN y) :: .int (iN x) :: rest)) :=
  lv_icmp_lt hx hb hdg ht (fun h => kt ((iN_lt rx ry).mp h)) (fun h => kf (fun z => h ((iN_lt rx ry).mpr z)))
theorem x_icmp_ge (hx : p.tables.exec = Jvm.exec) (hb : c.code = cc) {x y : Int} (rx : rng x) (ry : rng y) {off : Int} {tgt : Nat} (hdg : decode cc pc = .ok (.if_icmp .ge off, 3)) (ht : (pc : Int) + off = (tgt : Int)) (kt : ¬ x < y → W p l e R s m args below meth c H locs cells slots Q (F0 m tgt ls rest)) (kf : x < y → W p l e R s m args below meth c H locs cells slots Q (F0 m (pc + 3) ls rest)) : W p l e R s m args below meth c H locs cells slots Q (F0 m pc ls (.int (iN y) :: .int (iN x) :: rest)) :=
  lv_icmp_ge hx hb hdg ht (fun h => kt (fun z => by have := (iN_le ry rx).mp h; omega)) (fun h => kf (by rcases Int.lt_or_le x y with z | z; exact z; exact absurd ((iN_le ry rx).mpr z) h))
theorem x_icmp_gt (hx : p.tables.exec = Jvm.exec) (hb : c.code = cc) {x y : Int} (rx : rng x) (ry : rng y) {off : Int} {tgt : Nat} (hdg : decode cc pc = .ok (.if_icmp .gt off, 3)) (ht : (pc : Int) + off = (tgt : Int)) (kt : y < x → W p l e R s m args below meth c H locs cells slots Q (F0 m tgt ls rest)) (kf : ¬ y < x → W p l e R s m args below meth c H locs cells slots Q (F0 m (pc + 3) ls rest)) : W p l e R s m args below meth c H locs cells slots Q (F0 m pc ls (.int (iN y) :: .int (iN x) :: rest)) :=
  lv_icmp_gt hx hb hdg ht (fun h => kt ((iN_lt ry rx).mp h)) (fun h => kf (fun z => h ((iN_lt ry rx).mpr z)))
theorem x_icmp_le (hx : p.tables.exec = Jvm.exec) (hb : c.code = cc) {x y : Int} (rx : rng x) (ry : rng y) {off : Int} {tgt : Nat} (hdg : decode cc pc = .ok (.if_icmp .le off, 3)) (ht : (pc : Int) + off = (tgt : Int)) (kt : ¬ y < x → W p l e R s m args below meth c H locs cells slots Q (F0 m tgt ls rest)) (kf : y < x → W p l e R s m args below meth c H locs cells slots Q (F0 m (pc + 3) ls rest)) : W p l e R s m args below meth c H locs cells slots Q (F0 m pc ls (.int (iN y) :: .int (iN x) :: rest)) :=
  lv_icmp_le hx hb hdg ht (fun h => kt (fun z => by have := (iN_le rx ry).mp h; omega)) (fun h => kf (by rcases Int.lt_or_le y x with z | z; exact z; exact absurd ((iN_le rx ry).mpr z) h))
theorem x_if_eq (hx : p.tables.exec = Jvm.exec) (hb : c.code = cc) {x : Int} (rx : rng x) {off : Int} {tgt : Nat} (hdg : decode cc pc = .ok (.ifCond .eq off, 3)) (ht : (pc : Int) + off = (tgt : Int)) (kt : x = 0 → W p l e R s m args below meth c H locs cells slots Q (F0 m tgt ls rest)) (kf : ¬ x = 0 → W p l e R s m args below meth c H locs cells slots Q (F0 m (pc + 3) ls rest)) : W p l e R s m args below meth c H locs cells slots Q (F0 m pc ls (.int (iN x) :: rest)) :=
  lv_if_eq hx hb hdg ht (fun h => kt ((iN_eq rx rng_0).mp h)) (fun h => kf (fun z => h ((iN_eq rx rng_0).mpr z)))
theorem x_if_ne (hx : p.tables.exec = Jvm.exec) (hb : c.code = cc) {x : Int} (rx : rng x) {off : Int} {tgt : Nat} (hdg : decode cc pc = .ok (.ifCond .ne off, 3)) (ht : (pc : Int) + off = (tgt : Int)) (kt : ¬ x = 0 → W p l e R s m args below meth c H locs cells slots Q (F0 m tgt ls rest)) (kf : x = 0 → W p l e R s m args below meth c H locs cells slots Q (F0 m (pc + 3) ls rest)) : W p l e R s m args below meth c H locs cells slots Q (F0 m pc ls (.int (iN x) :: rest)) :=
  lv_if_ne hx hb hdg ht (fun h => kt (fun z => h ((iN_eq rx rng_0).mpr z))) (fun h => kf ((iN_eq rx rng_0).mp h))
theorem x_if_lt (hx : p.tables.exec = Jvm.exec) (hb : c.code = cc) {x : Int} (rx : rng x) {off : Int} {tgt : Nat} (hdg : decode cc pc = .ok (.ifCond .lt off, 3)) (ht : (pc : Int) + off = (tgt : Int)) (kt : x < 0 → W p l e R s m args below meth c H locs cells slots Q (F0 m tgt ls rest)) (kf : ¬ x < 0 → W p l e R s m args below meth c H locs cells slots Q (F0 m (pc + 3) ls rest)) : W p l e R s m args below meth c H locs cells slots Q (F0 m pc ls (.int (iN x) :: rest)) :=
  lv_if_lt hx hb hdg ht (fun h => kt ((iN_lt rx rng_0).mp h)) (fun h => kf (fun z => h ((iN_lt rx rng_0).mpr z)))
theorem x_if_ge (hx : p.tables.exec = Jvm.exec) (hb : c.code = cc) {x : Int} (rx : rng x) {off : Int} {tgt : Nat} (hdg : decode cc pc = .ok (.ifCond .ge off, 3)) (ht : (pc : Int) + off = (tgt : Int)) (kt : ¬ x < 0 → W p l e R s m args below meth c H locs cells slots Q (F0 m tgt ls rest)) (kf : x < 0 → W p l e R s m args below meth c H locs cells slots Q (F0 m (pc + 3) ls rest)) : W p l e R s m args below meth c H locs cells slots Q (F0 m pc ls (.int (iN x) :: rest)) :=
  lv_if_ge hx hb hdg ht (fun h => kt (fun z => by have := (iN_le rng_0 rx).mp h; omega)) (fun h => kf (by rcases Int.lt_or_le x 0 with z | z; exact z; exact absurd ((iN_le rng_0 rx).mpr z) h))
theorem x_if_gt (hx : p.tables.exec = Jvm.exec) (hb : c.code = cc) {x : Int} (rx : rng x) {off : Int} {tgt : Nat} (hdg : decode cc pc = .ok (.ifCond .gt off, 3)) (ht : (pc : Int) + off = (tgt : Int)) (kt : 0 < x → W p l e R s m args below meth c H locs cells slots Q (F0 m tgt ls rest)) (kf : ¬ 0 < x → W p l e R s m args below meth c H locs cells slots Q (F0 m (pc + 3) ls rest)) : W p l e R s m args below meth c H locs cells slots Q (F0 m pc ls (.int (iN x) :: rest)) :=
  lv_if_gt hx hb hdg ht (fun h => kt ((iN_lt rng_0 rx).mp h)) (fun h => kf (fun z => h ((iN_lt rng_0 rx).mpr z)))
theorem x_if_le (hx : p.tables.exec = Jvm.exec) (hb : c.code = cc) {x : Int} (rx : rng x) {off : Int} {tgt : Nat} (hdg : decode cc pc = .ok (.ifCond .le off, 3)) (ht : (pc : Int) + off = (tgt : Int)) (kt : ¬ 0 < x → W p l e R s m args below meth c H locs cells slots Q (F0 m tgt ls rest)) (kf : 0 < x → W p l e R s m args below meth c H locs cells slots Q (F0 m (pc + 3) ls rest)) : W p l e R s m args below meth c H locs cells slots Q (F0 m pc ls (.int (iN x) :: rest)) :=
  lv_if_le hx hb hdg ht (fun h => kt (fun z => by have := (iN_le rx rng_0).mp h; omega)) (fun h => kf (by rcases Int.lt_or_le 0 x with z | z; exact z; exact absurd ((iN_le rx rng_0).mpr z) h))
theorem x_iald (hx : p.tables.exec = Jvm.exec) (hb : c.code = cc) (hK : va_K D cl tys s) (hP : va_P D cl (gw N a E σ) H) (k t0 : Nat) (hk : k < N) {cI : ClassId} {n : Nat} (hE : E k (σ k) = .inl (cI, n, .inl (fun j : Nat => iN (σ k j)))) (hn : n < 2147483648) (ht : tys[t0]? = some (cI, .int)) {i : Int} (hin : 0 ≤ i ∧ i < n) (hdg : decode cc pc = .ok (.iaload, 1))
    (kk : W p l e R s m args below meth c H locs cells slots Q (F0 m (pc + 1) ls (.int (iN (σ k i)) :: rest))) : W p l e R s m args below meth c H locs cells slots Q (F0 m pc ls (.int (iN i) :: .ref (a k) :: rest)) := by
  refine va_iald hx hb hK hP k t0 (gw_at k hk hE) ht (iN_in hin hn) hdg ?_
  rw [iN_cl hin.1 (by omega), show ((i.toNat : Nat) : Int) = i by omega]
  exact kk
theorem x_iast (hx : p.tables.exec = Jvm.exec) (hb : c.code = cc) (hi : ∀ i j, i < N → j < N → a i = a j → i = j) (hK : va_K D cl tys s) (hP : va_P D cl (gw N a E σ) H) (hS : va_S (gA N a) H0 H locs) (k t0 : Nat) (hk : k < N) {cI : ClassId} {n : Nat} (hE : ∀ f : Int → Int, E k f = .inl (cI, n, .inl (fun j : Nat => iN (f j)))) (hn : n < 2147483648) (ht : tys[t0]? = some (cI, .int)) {i x : Int} (hin : 0 ≤ i ∧ i < n) (hdg : decode cc pc = .ok (.iastore, 1))
    (kk : ∀ (H1 : Heap) (locs1 : List Loc), va_P D cl (gw N a E (mup σ k i x)) H1 → va_S (gA N a) H0 H1 locs1 → W p l e R s m args below meth c H1 locs1 cells slots Q (F0 m (pc + 1) ls rest)) : W p l e R s m args below meth c H locs cells slots Q (F0 m pc ls (.int (iN x) :: .int (iN i) :: .ref (a k) :: rest)) := by
  refine va_iast hx hb hK hP (gw_D hi) hS k t0 (gw_at k hk (hE (σ k))) ht (iN_in hin hn) hdg fun H1 locs1 h1 _ h3 => ?_
  rw [upd_iN hin.1 (by omega), gw_set (j := i) (x := x) (hE _)] at h1
  exact kk H1 locs1 h1 h3
theorem x_aald (hx : p.tables.exec = Jvm.exec) (hb : c.code = cc) (hK : va_K D cl tys s) (hP : va_P D cl (gw N a E σ) H) (k t0 : Nat) (hk : k < N) {cA : ClassId} {n : Nat} {f : Nat → Option Nat} (hE : E k (σ k) = .inl (cA, n, .inr (.inr (.inr (.inr f))))) (hn : n < 2147483648) (ht : tys[t0]? = some (cA, .array .int)) {i : Int} {r : Nat} (hin : 0 ≤ i ∧ i < n) (hf : f i.toNat = some r) (hdg : decode cc pc = .ok (.aaload, 1))
    (kk : W p l e R s m args below meth c H locs cells slots Q (F0 m (pc + 1) ls (.ref r :: rest))) : W p l e R s m args below meth c H locs cells slots Q (F0 m pc ls (.int (iN i) :: .ref (a k) :: rest)) := by
  have hq := iN_in hin hn
  have hlt : (iN i).toNatClampNeg < n := Nat.not_le.mp fun q => hq (Or.inr q)
  refine W.aald (v := va_rf (f (iN i).toNatClampNeg)) (ty := .array .int) hx hb (hP k _ (gw_at k hk hE)) ((hK.2 t0 _ ht).1 n (fun j => va_rf (f j))) rfl (fun q => by cases q) (by show ¬ (iN i < 0 ∨ (arrV _ _ _).slots.size ≤ _); rw [arrV_size]; exact hq) (by show (arrV _ _ _).slots[_]? = _; rw [arrV_read _ _ hlt]) rfl rfl hdg ?_
  rw [iN_cl hin.1 (by omega), hf]
  exact kk
end XR
section XM
variable {p : Program} {l : Launch} {e : Env} {R : Room} {s : State} {m : MethodId} {args : Array Value} {below : List Frame} {meth : Method} {c : Code} {H : Heap} {locs : List Loc} {cells slots : Nat} {Q : State → Prop}
variable {cc : ByteArray} {pc : Nat} {ls : Array Slot} {rest : List Value} {D : va_G} {cl : List vw_C} {tys : List (ClassId × FieldType)} {H0 : Heap}
variable {N : Nat} {a : Nat → Nat} {E : Nat → (Int → Int) → va_E} {σ : Mem}
theorem x_get (hx : p.tables.exec = Jvm.exec) (hb : c.code = cc) {own C : String} {T : u_T} {NF ci index : Nat} {Ts : List Cond} (hts : ∀ w ∈ Ts, w.before args s = true) (hin : ∀ w ∈ u_ws C T NF, w ∈ Ts) (hown : s.vm.findClass own = some m.cls) (hK : va_K D cl tys s) (hP : va_P D cl (gw N a E σ) H) (k : Nat) (hk : k < N) {fs : List Value} (hE : E k (σ k) = .inr (ci, fs)) (hc : cl[ci]? = some (C, T, NF)) (j : Nat) (hj : j < NF) (hlink : (Cond.fieldLink own index (T j).1 (T j).2.1 (T j).2.2.1).before args s = true) {v : Value} (hv : fs[j]? = some v) (hdg : decode cc pc = .ok (.getfield index, 3))
    (kk : W p l e R s m args below meth c H locs cells slots Q (F0 m (pc + 3) ls (v :: rest))) : W p l e R s m args below meth c H locs cells slots Q (F0 m pc ls (.ref (a k) :: rest)) :=
  va_get hx hb hts hin hown hK hP k (gw_at k hk hE) hc j hj hlink (fun _ h => h) hv hdg kk
theorem x_getN (hx : p.tables.exec = Jvm.exec) (hb : c.code = cc) {own C host : String} {T : u_T} {NF ci index : Nat} {Ts : List Cond} (hts : ∀ w ∈ Ts, w.before args s = true) (hin : ∀ w ∈ u_ws C T NF, w ∈ Ts) (hown : s.vm.findClass own = some m.cls) (hK : va_K D cl tys s) (hP : va_P D cl (gw N a E σ) H) (k : Nat) (hk : k < N) {fs : List Value} (hE : E k (σ k) = .inr (ci, fs)) (hc : cl[ci]? = some (C, T, NF)) (j : Nat) (hj : j < NF) (hlink : (Cond.fieldLinkNest own index (T j).1 (T j).2.1 (T j).2.2.1 host).before args s = true) {v : Value} (hv : fs[j]? = some v) (hdg : decode cc pc = .ok (.getfield index, 3))
    (kk : W p l e R s m args below meth c H locs cells slots Q (F0 m (pc + 3) ls (v :: rest))) : W p l e R s m args below meth c H locs cells slots Q (F0 m pc ls (.ref (a k) :: rest)) :=
  va_getN hx hb hts hin hown hK hP k (gw_at k hk hE) hc j hj hlink (fun _ h => h) hv hdg kk
theorem x_put (hx : p.tables.exec = Jvm.exec) (hb : c.code = cc) {own C : String} {T : u_T} {NF ci index : Nat} {Ts : List Cond} (hts : ∀ w ∈ Ts, w.before args s = true) (hin : ∀ w ∈ u_ws C T NF, w ∈ Ts) (ty0 : Nat → FieldType) (hty : ∀ k, k < NF → parseFieldDescriptor (T k).2.2.1 = some (ty0 k)) (hnm : ∀ a, a < NF → ∀ b, b < NF → a ≠ b → (T a).2.1 ≠ (T b).2.1) (hi : ∀ i j, i < N → j < N → a i = a j → i = j) (hown : s.vm.findClass own = some m.cls) (hK : va_K D cl tys s) (hP : va_P D cl (gw N a E σ) H) (hS : va_S (gA N a) H0 H locs) (k : Nat) (hk : k < N) {fs : List Value} (hE : E k (σ k) = .inr (ci, fs)) (hc : cl[ci]? = some (C, T, NF)) (j : Nat) (jz : Int) (hj : j < NF) (hlink : (Cond.fieldLink own index (T j).1 (T j).2.1 (T j).2.2.1).before args s = true) (hfin : (T j).2.2.2 = false) {ty : FieldType} {x : Int} (hd : parseFieldDescriptor (T j).2.2.1 = some ty) (hn : narrow ty (.int (iN x)) = .int (iN x)) (hfit : fits ty (.int (iN x)) = true) (hlen : j < fs.length) (hE' : E k (mh_up (σ k) jz x) = .inr (ci, fs.set j (.int (iN x)))) (hdg : decode cc pc = .ok (.putfield index, 3))
    (kk : ∀ (H1 : Heap) (locs1 : List Loc), va_P D cl (gw N a E (mup σ k jz x)) H1 → va_S (gA N a) H0 H1 locs1 → W p l e R s m args below meth c H1 locs1 cells slots Q (F0 m (pc + 3) ls rest)) : W p l e R s m args below meth c H locs cells slots Q (F0 m pc ls (.int (iN x) :: .ref (a k) :: rest)) := by
  refine va_put hx hb hts hin ty0 hty hnm hown hK hP (gw_D hi) hS k (gw_at k hk hE) hc j hj hlink (fun _ h => h) hfin hd hn hfit hlen hdg fun H1 locs1 h1 _ h3 => ?_
  rw [gw_set (j := jz) (x := x) hE'] at h1
  exact kk H1 locs1 h1 h3
theorem x_putN (hx : p.tables.exec = Jvm.exec) (hb : c.code = cc) {own C host : String} {T : u_T} {NF ci index : Nat} {Ts : List Cond} (hts : ∀ w ∈ Ts, w.before args s = true) (hin : ∀ w ∈ u_ws C T NF, w ∈ Ts) (ty0 : Nat → FieldType) (hty : ∀ k, k < NF → parseFieldDescriptor (T k).2.2.1 = some (ty0 k)) (hnm : ∀ a, a < NF → ∀ b, b < NF → a ≠ b → (T a).2.1 ≠ (T b).2.1) (hi : ∀ i j, i < N → j < N → a i = a j → i = j) (hown : s.vm.findClass own = some m.cls) (hK : va_K D cl tys s) (hP : va_P D cl (gw N a E σ) H) (hS : va_S (gA N a) H0 H locs) (k : Nat) (hk : k < N) {fs : List Value} (hE : E k (σ k) = .inr (ci, fs)) (hc : cl[ci]? = some (C, T, NF)) (j : Nat) (jz : Int) (hj : j < NF) (hlink : (Cond.fieldLinkNest own index (T j).1 (T j).2.1 (T j).2.2.1 host).before args s = true) (hfin : (T j).2.2.2 = false) {ty : FieldType} {x : Int} (hd : parseFieldDescriptor (T j).2.2.1 = some ty) (hn : narrow ty (.int (iN x)) = .int (iN x)) (hfit : fits ty (.int (iN x)) = true) (hlen : j < fs.length) (hE' : E k (mh_up (σ k) jz x) = .inr (ci, fs.set j (.int (iN x)))) (hdg : decode cc pc = .ok (.putfield index, 3))
    (kk : ∀ (H1 : Heap) (locs1 : List Loc), va_P D cl (gw N a E (mup σ k jz x)) H1 → va_S (gA N a) H0 H1 locs1 → W p l e R s m args below meth c H1 locs1 cells slots Q (F0 m (pc + 3) ls rest)) : W p l e R s m args below meth c H locs cells slots Q (F0 m pc ls (.int (iN x) :: .ref (a k) :: rest)) := by
  refine va_putN hx hb hts hin ty0 hty hnm hown hK hP (gw_D hi) hS k (gw_at k hk hE) hc j hj hlink (fun _ h => h) hfin hd hn hfit hlen hdg fun H1 locs1 h1 _ h3 => ?_
  rw [gw_set (j := jz) (x := x) hE'] at h1
  exact kk H1 locs1 h1 h3
end XM
/-! numbers' other operations -/
def bAnd (x y : Int) : Int := (iN x &&& iN y).toInt
def bOr (x y : Int) : Int := (iN x ||| iN y).toInt
def bShl (x y : Int) : Int := (iN x <<< (iN y &&& 31)).toInt
def bShr (x y : Int) : Int := (iN x >>> (iN y &&& 31)).toInt
theorem bAnd_rng (x y : Int) : rng (bAnd x y) := iN_rng _
theorem bOr_rng (x y : Int) : rng (bOr x y) := iN_rng _
theorem bShl_rng (x y : Int) : rng (bShl x y) := iN_rng _
theorem bShr_rng (x y : Int) : rng (bShr x y) := iN_rng _
def zmax (x y : Int) : Int := if x < y then y else x
theorem zmax_rng {x y : Int} (hx : rng x) (hy : rng y) : rng (zmax x y) := by unfold zmax; split <;> assumption
def zabs (x : Int) : Int := if 0 ≤ x then x else 0 - x
def FU : Nat := 1000000000
def nx {α β : Type} (v : α) (f : α → β) : β := f v
theorem nxe {α β : Type} {v : α} {f : α → Option β} {r : β} (h : nx v f = some r) : ∃ w, w = v ∧ f w = some r := ⟨v, rfl, h⟩
def bnd2 {β : Type} (o : Option (Int × Mem)) (f : Int → Mem → Option β) : Option β := o.bind (fun w => f w.1 w.2)
theorem bd2 {β : Type} {o : Option (Int × Mem)} {f : Int → Mem → Option β} {r : β} (h : bnd2 o f = some r) : ∃ v σ, o = some (v, σ) ∧ f v σ = some r := by
  cases o with
  | none => cases h
  | some w => exact ⟨w.1, w.2, rfl, h⟩
def mcpy (σ : Mem) (k0 k1 : Nat) (sp dp n : Int) : Mem := fun k => if k = k1 then (fun j => if dp ≤ j ∧ j < dp + n then σ k0 (sp + (j - dp)) else σ k1 j) else σ k
theorem Rg_cpy {σ : Mem} {k0 k1 : Nat} {sp dp n : Int} (h : Rg σ) : Rg (mcpy σ k0 k1 sp dp n) := by
  intro k j
  unfold mcpy
  split
  · dsimp only; split
    · exact h _ _
    · exact h _ _
  · exact h _ _
theorem znar {v : Int} (h : v = 0 ∨ v = 1) : narrow .boolean (.int (iN v)) = .int (iN v) := by
  rcases h with rfl | rfl <;> decide
/-! ends of methods: nothing changed and a number (qP) or an object of the world (qR); the world changed, with a number (qM) or without (qMv) -/
def qP (r : Int) : Array Value → State → Outcome → State → Prop := fun _ st oc t => oc = .returned (some (.int (iN r))) ∧ rng r ∧ t.heap = st.heap
def qR (a : Nat → Nat) (r : Int) : Array Value → State → Outcome → State → Prop := fun _ st oc t => oc = .returned (some (if r = -1 then .null else .ref (a r.toNat))) ∧ t.heap = st.heap
def qM (D : va_G) (Wf : Mem → va_W) (A : Nat → Prop) (r : Int × Mem) : Array Value → State → Outcome → State → Prop := fun _ st oc t => oc = .returned (some (.int (iN r.1))) ∧ rng r.1 ∧ Rg r.2 ∧ va_P D vwCl (Wf r.2) t.heap ∧ va_F A st t
def qMv (D : va_G) (Wf : Mem → va_W) (A : Nat → Prop) (r : Int × Mem) : Array Value → State → Outcome → State → Prop := fun _ st oc t => oc = .returned none ∧ Rg r.2 ∧ va_P D vwCl (Wf r.2) t.heap ∧ va_F A st t
section XQ
variable {p : Program} {l : Launch} {e : Env} {R : Room} {s : State} {m : MethodId} {args : Array Value} {below : List Frame} {meth : Method} {c : Code} {H : Heap} {locs : List Loc} {cells slots : Nat} {Q : State → Prop}
variable {cc : ByteArray} {pc : Nat} {ls : Array Slot} {rest st0 : List Value} {D : va_G} {tys : List (ClassId × FieldType)} {H0 : Heap} {ar : Array Value}
variable {N : Nat} {a : Nat → Nat} {E : Nat → (Int → Int) → va_E} {σ : Mem}
theorem x_iand (hx : p.tables.exec = Jvm.exec) (hb : c.code = cc) {x y : Int} (hdg : decode cc pc = .ok (.iand, 1)) (k : W p l e R s m args below meth c H locs cells slots Q (F0 m (pc + 1) ls (.int (iN (bAnd x y)) :: rest))) : W p l e R s m args below meth c H locs cells slots Q (F0 m pc ls (.int (iN y) :: .int (iN x) :: rest)) :=
  lv_iand hx hb hdg (by unfold bAnd at k; rw [iN_of] at k; exact k)
theorem x_ior (hx : p.tables.exec = Jvm.exec) (hb : c.code = cc) {x y : Int} (hdg : decode cc pc = .ok (.ior, 1)) (k : W p l e R s m args below meth c H locs cells slots Q (F0 m (pc + 1) ls (.int (iN (bOr x y)) :: rest))) : W p l e R s m args below meth c H locs cells slots Q (F0 m pc ls (.int (iN y) :: .int (iN x) :: rest)) :=
  lv_ior hx hb hdg (by unfold bOr at k; rw [iN_of] at k; exact k)
theorem x_ishl (hx : p.tables.exec = Jvm.exec) (hb : c.code = cc) {x y : Int} (hdg : decode cc pc = .ok (.ishl, 1)) (k : W p l e R s m args below meth c H locs cells slots Q (F0 m (pc + 1) ls (.int (iN (bShl x y)) :: rest))) : W p l e R s m args below meth c H locs cells slots Q (F0 m pc ls (.int (iN y) :: .int (iN x) :: rest)) :=
  lv_ishl hx hb hdg (by unfold bShl at k; rw [iN_of] at k; exact k)
theorem x_ishr (hx : p.tables.exec = Jvm.exec) (hb : c.code = cc) {x y : Int} (hdg : decode cc pc = .ok (.ishr, 1)) (k : W p l e R s m args below meth c H locs cells slots Q (F0 m (pc + 1) ls (.int (iN (bShr x y)) :: rest))) : W p l e R s m args below meth c H locs cells slots Q (F0 m pc ls (.int (iN y) :: .int (iN x) :: rest)) :=
  lv_ishr hx hb hdg (by unfold bShr at k; rw [iN_of] at k; exact k)
theorem x_max {x y : Int} (rx : rng x) (ry : rng y) (hx : p.tables.exec = Jvm.exec) (hb : c.code = cc) (hml : c.maxLocals = ls.size) {own : String} {index : Nat} (hown : s.vm.findClass own = some m.cls) (hlink : (Cond.methodLink own index Lib.Math.max.name).before args s = true) (hstat : (Cond.static Lib.Math.max.name).before args s = true) (hini : (Cond.initialized "java/lang/Math").before args s = true) (hcode : (Cond.code Lib.Math.max.name Lib.Math.max.code 2 (some .int)).before args s = true) (hframes : 1 ≤ R.frames) (hlocals : (rest.map fun v => v.category).sum + 13 ≤ R.locals) (hc : cells ≤ R.cells) (hs : slots ≤ R.slots) (hdg : decode cc pc = .ok (.invokestatic index, 3))
    (kk : W p l e R s m args below meth c H locs cells slots Q (F0 m (pc + 3) ls (.int (iN (zmax x y)) :: rest))) : W p l e R s m args below meth c H locs cells slots Q (F0 m pc ls (.int (iN y) :: .int (iN x) :: rest)) := by
  refine va_mmax hx hb hml hown hlink hstat hini hcode hframes hlocals hc hs hdg ?_
  have : (if iN x < iN y then iN y else iN x) = iN (zmax x y) := by
    unfold zmax
    by_cases h : x < y
    · rw [if_pos h, if_pos ((iN_lt rx ry).mpr h)]
    · rw [if_neg h, if_neg (fun z => h ((iN_lt rx ry).mp z))]
  rw [this]; exact kk
theorem x_abs {x : Int} (rx : rng x) (hx : p.tables.exec = Jvm.exec) (hb : c.code = cc) (hml : c.maxLocals = ls.size) {own : String} {index : Nat} (hown : s.vm.findClass own = some m.cls) (hlink : (Cond.methodLink own index Lib.Math.abs.name).before args s = true) (hstat : (Cond.static Lib.Math.abs.name).before args s = true) (hini : (Cond.initialized "java/lang/Math").before args s = true) (hcode : (Cond.code Lib.Math.abs.name Lib.Math.abs.code 1 (some .int)).before args s = true) (hframes : 1 ≤ R.frames) (hlocals : (rest.map fun v => v.category).sum + 13 ≤ R.locals) (hc : cells ≤ R.cells) (hs : slots ≤ R.slots) (hdg : decode cc pc = .ok (.invokestatic index, 3))
    (kk : W p l e R s m args below meth c H locs cells slots Q (F0 m (pc + 3) ls (.int (iN (zabs x)) :: rest))) : W p l e R s m args below meth c H locs cells slots Q (F0 m pc ls (.int (iN x) :: rest)) := by
  refine va_mabs hx hb hml hown hlink hstat hini hcode hframes hlocals hc hs hdg ?_
  have : (if 0 ≤ iN x then iN x else 0 - iN x) = iN (zabs x) := by
    unfold zabs
    by_cases h : 0 ≤ x
    · rw [if_pos h, if_pos (show (0 : Int32) ≤ iN x from (iN_le rng_0 rx).mpr h)]
    · rw [if_neg h, if_neg (show ¬ (0 : Int32) ≤ iN x from fun z => h ((iN_le rng_0 rx).mp z)), ← iN_sub]; rfl
  rw [this]; exact kk
theorem gw_put {f' : Int → Int} {k : Nat} {e : va_E} (he : E k f' = e) : (gw N a E σ).set k (a k, e) = gw N a E (fun k' => if k' = k then f' else σ k') := by
  subst he
  apply List.ext_getElem?
  intro i
  rw [List.getElem?_set]
  by_cases hi : k = i
  · subst hi
    simp only [gw, List.length_map, List.length_range, if_true]
    by_cases hk : k < N
    · simp [hk]
    · simp [hk]
  · rw [if_neg hi]
    simp only [gw, List.getElem?_map]
    by_cases hk : i < N
    · simp [hk, show ¬ i = k from fun z => hi z.symm]
    · simp [hk]
theorem x_copy (hx : p.tables.exec = Jvm.exec) (hb : c.code = cc) (hml : c.maxLocals = ls.size) {own : String} {index : Nat} (hown : s.vm.findClass own = some m.cls) (hlink : (Cond.methodLink own index arraycopyName).before args s = true) (hnat : (Cond.native arraycopyName).before args s = true) (hstat : (Cond.static arraycopyName).before args s = true) (hini : (Cond.initialized "java/lang/System").before args s = true) (hi : ∀ i j, i < N → j < N → a i = a j → i = j)
    (hK : va_K D vwCl tys s) (hP : va_P D vwCl (gw N a E σ) H) (hS : va_S (gA N a) H0 H locs) (k0 k1 t0 : Nat) (hk0 : k0 < N) (hk1 : k1 < N) {cI : ClassId} {n0 n1 : Nat} (hE0 : E k0 (σ k0) = .inl (cI, n0, .inl (fun j : Nat => iN (σ k0 j)))) (hE1 : ∀ f : Int → Int, E k1 f = .inl (cI, n1, .inl (fun j : Nat => iN (f j)))) (hn0 : n0 < 2147483648) (hn1 : n1 < 2147483648) (ht : tys[t0]? = some (cI, .int)) {sp dp n : Int} (hg : 0 ≤ sp ∧ 0 ≤ dp ∧ 0 ≤ n ∧ sp + n ≤ n0 ∧ dp + n ≤ n1)
    (hframes : 1 ≤ R.frames) (hlocals : (rest.map fun v => v.category).sum + (nativeFrameWords "java/lang/System" "arraycopy" 5 + 11) ≤ R.locals) (hdg : decode cc pc = .ok (.invokestatic index, 3))
    (kk : ∀ (H1 : Heap) (locs1 : List Loc), va_P D vwCl (gw N a E (mcpy σ k0 k1 sp dp n)) H1 → va_S (gA N a) H0 H1 locs1 → W p l e R s m args below meth c H1 locs1 cells slots Q (F0 m (pc + 3) ls rest)) : W p l e R s m args below meth c H locs cells slots Q (F0 m pc ls (.int (iN n) :: .int (iN dp) :: .ref (a k1) :: .int (iN sp) :: .ref (a k0) :: rest)) := by
  obtain ⟨g1, g2, g3, g4, g5⟩ := hg
  have nn : ∀ z : Int, 0 ≤ z → z < 2147483648 → ¬ iN z < 0 := fun z z0 z1 h => by have := (iN_lt (a := z) (b := 0) ⟨by omega, by omega⟩ rng_0).mp h; omega
  refine va_copyi hx hb hml hown hlink hnat hstat hini hK hP (gw_D hi) hS k0 k1 t0 t0 (gw_at k0 hk0 hE0) (gw_at k1 hk1 (hE1 (σ k1))) ht ht rfl (nn _ g1 (by omega)) (nn _ g2 (by omega)) (nn _ g3 (by omega)) (by rw [iN_cl g1 (by omega), iN_cl g3 (by omega)]; omega) (by rw [iN_cl g2 (by omega), iN_cl g3 (by omega)]; omega) (fun _ _ => rfl) hframes hlocals hdg fun H1 locs1 h1 _ h3 => ?_
  rw [iN_cl g1 (by omega), iN_cl g2 (by omega), iN_cl g3 (by omega)] at h1
  have hc : va_cpy (fun j : Nat => iN (σ k0 j)) (fun j : Nat => iN (σ k1 j)) sp.toNat dp.toNat n.toNat = fun j : Nat => iN ((fun j : Int => if dp ≤ j ∧ j < dp + n then σ k0 (sp + (j - dp)) else σ k1 j) j) := by
    funext j
    unfold va_cpy
    dsimp only
    by_cases h : dp.toNat ≤ j ∧ j < dp.toNat + n.toNat
    · rw [if_pos h, if_pos (by omega), show ((sp.toNat + (j - dp.toNat) : Nat) : Int) = sp + (j - dp) by omega]
    · rw [if_neg h, if_neg (by omega)]
  rw [hc, gw_put (f' := fun j : Int => if dp ≤ j ∧ j < dp + n then σ k0 (sp + (j - dp)) else σ k1 j) (hE1 _)] at h1
  exact kk H1 locs1 h1 h3
theorem x_callP {v : Int} (hr : va_Run p l e R s m args below meth c H locs cells slots 0 0 (F0 m pc ls st0) rest (qP v ar) (fun _ => False)) (kk : rng v → W p l e R s m args below meth c H locs cells slots Q (F0 m (pc + 3) ls (.int (iN v) :: rest))) : W p l e R s m args below meth c H locs cells slots Q (F0 m pc ls st0) := by
  intro T hT X
  obtain ⟨w, st₀, t, T', L, h0, X', hL, e1, e2, ⟨hv, hg, hh⟩, st⟩ := hr T hT X
  cases hv
  have hL0 : L = [] := by
    cases L with
    | nil => rfl
    | cons q _ => exact absurd (hL q List.mem_cons_self) id
  subst hL0
  rw [List.append_nil] at X'
  obtain ⟨t2, a1, b1⟩ := kk hg T' (by rw [e1, hh, h0]) X'
  exact ⟨t2, st t2 a1, b1⟩
theorem x_callR {v : Int} (hr : va_Run p l e R s m args below meth c H locs cells slots 0 0 (F0 m pc ls st0) rest (qR a v ar) (fun _ => False)) (kk : W p l e R s m args below meth c H locs cells slots Q (F0 m (pc + 3) ls ((if v = -1 then .null else .ref (a v.toNat)) :: rest))) : W p l e R s m args below meth c H locs cells slots Q (F0 m pc ls st0) := by
  intro T hT X
  obtain ⟨w, st₀, t, T', L, h0, X', hL, e1, e2, ⟨hv, hh⟩, st⟩ := hr T hT X
  cases hv
  have hL0 : L = [] := by
    cases L with
    | nil => rfl
    | cons q _ => exact absurd (hL q List.mem_cons_self) id
  subst hL0
  rw [List.append_nil] at X'
  obtain ⟨t2, a1, b1⟩ := kk T' (by rw [e1, hh, h0]) X'
  exact ⟨t2, st t2 a1, b1⟩
theorem x_SF {A : Nat → Prop} {st₀ t T' : State} {L : List Loc} (hS : va_S A H0 H locs) (h0 : st₀.heap = H) (e1 : T'.heap = t.heap) (hL : ∀ q ∈ L, A q.base) (hF : va_F A st₀ t) : va_S A H0 T'.heap (locs ++ L) := by
  obtain ⟨hz, hk⟩ := hF
  rw [h0] at hz hk
  exact ⟨Nat.le_trans hS.1 (by rw [e1]; exact hz), fun q h1 h2 => by rw [e1, hk q (Nat.lt_of_lt_of_le h1 hS.1) h2]; exact hS.2.1 q h1 h2, fun q hq => by
      rcases List.mem_append.mp hq with h | h
      · exact hS.2.2 q h
      · exact hL q h⟩
theorem x_callM {A : Nat → Prop} {Wf : Mem → va_W} {v : Int} {σ' : Mem} (hr : va_Run p l e R s m args below meth c H locs cells slots 0 0 (F0 m pc ls st0) rest (qM D Wf A (v, σ') ar) A) (hS : va_S A H0 H locs) (kk : rng v → Rg σ' → ∀ (H1 : Heap) (locs1 : List Loc), va_P D vwCl (Wf σ') H1 → va_S A H0 H1 locs1 → W p l e R s m args below meth c H1 locs1 cells slots Q (F0 m (pc + 3) ls (.int (iN v) :: rest))) : W p l e R s m args below meth c H locs cells slots Q (F0 m pc ls st0) := by
  intro T hT X
  obtain ⟨w, st₀, t, T', L, h0, X', hL, e1, e2, ⟨hv, hg, hR, hP, hF⟩, st⟩ := hr T hT X
  cases hv
  obtain ⟨t2, a1, b1⟩ := kk hg hR T'.heap (locs ++ L) (by rw [e1]; exact hP) (x_SF hS h0 e1 hL hF) T' rfl X'
  exact ⟨t2, st t2 a1, b1⟩
theorem x_callMv {A : Nat → Prop} {Wf : Mem → va_W} {v : Int} {σ' : Mem} (hr : va_Run p l e R s m args below meth c H locs cells slots 0 0 (F0 m pc ls st0) rest (qMv D Wf A (v, σ') ar) A) (hS : va_S A H0 H locs) (kk : True → Rg σ' → ∀ (H1 : Heap) (locs1 : List Loc), va_P D vwCl (Wf σ') H1 → va_S A H0 H1 locs1 → W p l e R s m args below meth c H1 locs1 cells slots Q (F0 m (pc + 3) ls rest)) : W p l e R s m args below meth c H locs cells slots Q (F0 m pc ls st0) := by
  intro T hT X
  obtain ⟨w, st₀, t, T', L, h0, X', hL, e1, e2, ⟨hv, hR, hP, hF⟩, st⟩ := hr T hT X
  cases hv
  obtain ⟨t2, a1, b1⟩ := kk trivial hR T'.heap (locs ++ L) (by rw [e1]; exact hP) (x_SF hS h0 e1 hL hF) T' rfl X'
  exact ⟨t2, st t2 a1, b1⟩
theorem x_iret {v r : Int} (hx : p.tables.exec = Jvm.exec) (hb : c.code = cc) (hr : meth.sig.returnType = some .int) (he : v = r) (rv : rng v) (hlocks : meth.locks = false) (hdg : decode cc pc = .ok (.ireturn, 1)) : W p l e R s m args below meth c s.heap [] 0 0 (MQ below (qP r) args s 0 0 (fun _ => False)) (F0 m pc ls [.int (iN v)]) := by
  subst he
  exact W.iret hx hb hr (fun t ht _ => ⟨rfl, rv, ht⟩) (fun _ h => by cases h) hdg hlocks
theorem x_zret {v r : Int} {ty : FieldType} (hx : p.tables.exec = Jvm.exec) (hb : c.code = cc) (hr : meth.sig.returnType = some ty) (hn : narrow ty (.int (iN v)) = .int (iN v)) (he : v = r) (rv : rng v) (hlocks : meth.locks = false) (hdg : decode cc pc = .ok (.ireturn, 1)) : W p l e R s m args below meth c s.heap [] 0 0 (MQ below (qP r) args s 0 0 (fun _ => False)) (F0 m pc ls [.int (iN v)]) := by
  subst he
  exact W.zret hx hb hr hn (fun t ht _ => ⟨rfl, rv, ht⟩) (fun _ h => by cases h) hdg hlocks
theorem x_aret {k r : Int} {nm : String} {v : Value} (hx : p.tables.exec = Jvm.exec) (hb : c.code = cc) (hr : meth.sig.returnType = some (.object nm)) (hv : (if k = -1 then .null else .ref (a k.toNat)) = v) (he : k = r) (hlocks : meth.locks = false) (hdg : decode cc pc = .ok (.areturn, 1)) : W p l e R s m args below meth c s.heap [] 0 0 (MQ below (qR a r) args s 0 0 (fun _ => False)) (F0 m pc ls [v]) := by
  subst he
  subst hv
  exact W.aret hx hb hr (Or.inl ⟨_, rfl⟩) (by split; exact Or.inl rfl; exact Or.inr ⟨_, rfl⟩) (fun t ht _ => ⟨rfl, ht⟩) (fun _ h => by cases h) hdg hlocks
theorem x_iretM {v : Int} {σ' : Mem} {r : Int × Mem} {Wf : Mem → va_W} {A : Nat → Prop} (hx : p.tables.exec = Jvm.exec) (hb : c.code = cc) (hr : meth.sig.returnType = some .int) (he : (v, σ') = r) (rv : rng v) (hR : Rg σ') (hP : va_P D vwCl (Wf σ') H) (hS : va_S A s.heap H locs) (hlocks : meth.locks = false) (hdg : decode cc pc = .ok (.ireturn, 1)) : W p l e R s m args below meth c H locs 0 0 (MQ below (qM D Wf A r) args s 0 0 A) (F0 m pc ls [.int (iN v)]) := by
  subst he
  exact W.iret hx hb hr (fun t ht _ => ⟨rfl, rv, hR, by rw [ht]; exact hP, hS.F ht⟩) hS.2.2 hdg hlocks
theorem x_vretM {v : Int} {σ' : Mem} {r : Int × Mem} {Wf : Mem → va_W} {A : Nat → Prop} (hx : p.tables.exec = Jvm.exec) (hb : c.code = cc) (hr : meth.sig.returnType = none) (he : (v, σ') = r) (hR : Rg σ') (hP : va_P D vwCl (Wf σ') H) (hS : va_S A s.heap H locs) (hlocks : meth.locks = false) (hdg : decode cc pc = .ok (.return_, 1)) : W p l e R s m args below meth c H locs 0 0 (MQ below (qMv D Wf A r) args s 0 0 A) (F0 m pc ls []) := by
  subst he
  exact W.vret hx hb hr (fun t ht _ => ⟨rfl, hR, by rw [ht]; exact hP, hS.F ht⟩) hS.2.2 hdg hlocks
end XQ
