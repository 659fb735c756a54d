/-! what the net's writers do to its rows -/
set_option maxRecDepth 16384 in
theorem upd_at (f : Nat → Int32) (k : Nat) (x : Int32) (j : Nat) : upd f k x j = if j = k then x else f j := rfl
set_option maxRecDepth 16384 in
theorem L_lay_at {f0 : Nat → Int32} : ∀ (n i : Nat) (g : Nat → Int32), (∀ j, j < i → g j = 0) → ∀ j, (j < i + n → L_lay_7 (fun g => g) n i g j = 0) ∧ (i + n ≤ j → L_lay_7 (fun g => g) n i g j = g j)
  | 0, i, g, h, j => ⟨fun q => h j q, fun _ => rfl⟩
  | n + 1, i, g, h, j => by
    rw [L_lay_7]
    have r := L_lay_at (f0 := f0) n (i + 1) (upd g i 0) (fun j hj => by
      rw [upd_at]
      split
      · rfl
      · exact h j (by omega)) j
    refine ⟨fun q => r.1 (by omega), fun q => ?_⟩
    rw [r.2 (by omega), upd_at, if_neg (by omega)]
set_option maxRecDepth 16384 in
theorem lay_at (f : Nat → Int32) {j : Nat} (h : j < 16) : P_lay f j = 0 := by
  rw [P_lay]
  exact (L_lay_at (f0 := f) 16 0 f (fun j h => by omega) j).1 (by omega)
set_option maxRecDepth 16384 in
theorem L_take_at {g : Nat → Int32} : ∀ (n i : Nat) (a : Nat → Int32), i + n ≤ 16 → (∀ j, j < i → a j = g j) → ∀ j, j < i + n → L_take_10 g (fun a => a) n i a j = g j
  | 0, i, a, hi, h, j, q => h j q
  | n + 1, i, a, hi, h, j, q => by
    rw [L_take_10]
    refine L_take_at n (i + 1) _ (by omega) (fun j hj => ?_) j (by omega)
    rw [upd_at]
    split
    · rename_i e; rw [e, nearOf_nI (by omega)]
    · exact h j (by omega)
set_option maxRecDepth 16384 in
theorem take_at (f g : Nat → Int32) {j : Nat} (h : j < 16) : P_take f g j = g j := by
  rw [P_take]
  exact L_take_at 16 0 f (by omega) (fun j h => by omega) j (by omega)
set_option maxRecDepth 16384 in
theorem isKnot_iff {K : Nat} {x : Int32} (hK : K ≤ 16) : P_isKnot K x = 0 ∨ ∃ k, k < K ∧ x = nI k ∧ P_isKnot K x = 1 := by
  rw [P_isKnot]
  split
  · exact Or.inl rfl
  · rename_i h1
    split
    · exact Or.inl rfl
    · rename_i h2
      split
      · exact Or.inl rfl
      · refine Or.inr ⟨x.toNatClampNeg, ?_, ?_, rfl⟩
        · have a : (nI K).toInt = K := nI_toInt (by omega)
          have b : ¬ (nI K).toInt ≤ x.toInt := fun q => h2 (Int32.le_iff_toInt_le.mpr q)
          have c : ¬ x.toInt < (0 : Int32).toInt := fun q => h1 (Int32.lt_iff_toInt_lt.mpr q)
          have z : (0 : Int32).toInt = 0 := by decide
          have d : x.toNatClampNeg = x.toInt.toNat := rfl
          omega
        · have c : ¬ x.toInt < (0 : Int32).toInt := fun q => h1 (Int32.lt_iff_toInt_lt.mpr q)
          have z : (0 : Int32).toInt = 0 := by decide
          have d : x.toNatClampNeg = x.toInt.toNat := rfl
          have e := fb_rngK x
          apply Int32.toInt_inj.mp
          rw [nI_toInt (by omega)]
          omega
set_option maxRecDepth 16384 in
theorem isKnot_nI {K k : Nat} (hK : K ≤ 16) (h : k < K) : P_isKnot K (nI k) = 1 := by
  rcases isKnot_iff (x := nI k) hK with e | ⟨j, a, b, c⟩
  · exfalso
    rw [P_isKnot, if_neg (nI_pos (by omega)), if_neg (nI_ge h (by omega)), if_neg (show ¬ (16 : Int32) ≤ nI k from nI_ge (a := k) (b := 16) (by omega) (by omega))] at e
    exact absurd e (by decide)
  · exact c
-- an edge more
set_option maxRecDepth 16384 in
theorem join_tb {K a b : Nat} {f : Nat → Int32} (hK : K ≤ 16) (ha : a < K) (hb : b < K) (hab : a ≠ b) (i j : Nat) (hi : i < 16) : tb (P_join K f (nI a) (nI b) i) j = (tb (f i) j || (i == a && j == b) || (i == b && j == a)) := by
  have hne : ¬ nI a = nI b := fun e => hab (nI_inj (by omega) (by omega) e)
  rw [P_join, isKnot_nI hK ha, isKnot_nI hK hb, if_neg (by decide), if_neg (by decide), if_neg hne]
  simp only [bd]
  rw [nI_clamp (by omega), nI_clamp (by omega), upd_at]
  split
  · rename_i e
    subst e
    rw [tb_or, tb_bit (by omega), upd_at, if_neg (by omega), beq_eq_false_iff_ne.mpr (show i ≠ a by omega), beq_self_eq_true]
    simp
  · rename_i e
    rw [upd_at]
    split
    · rename_i e2
      subst e2
      rw [tb_or, tb_bit (by omega), beq_eq_false_iff_ne.mpr e, beq_self_eq_true]
      simp
    · rename_i e2
      rw [beq_eq_false_iff_ne.mpr e, beq_eq_false_iff_ne.mpr e2]
      simp
set_option maxRecDepth 16384 in
theorem loosen_tb {K a b : Nat} {f : Nat → Int32} (hK : K ≤ 16) (ha : a < K) (hb : b < K) (hab : a ≠ b) (i j : Nat) (hi : i < 16) : tb (P_loosen K f (nI a) (nI b) i) j = (tb (f i) j && !((i == a && j == b) || (i == b && j == a))) := by
  rw [P_loosen, isKnot_nI hK ha, isKnot_nI hK hb, if_neg (by decide), if_neg (by decide)]
  simp only [bd]
  rw [nI_clamp (by omega), nI_clamp (by omega), upd_at]
  have lt (s : Int32) : (tb s j && decide (j < 32)) = tb s j := by
    cases e : tb s j with
    | false => rfl
    | true => exact decide_eq_true (tb_lt e)
  split
  · rename_i e
    subst e
    rw [tb_and, tb_not, tb_bit (by omega), upd_at, if_neg (by omega), ← Bool.and_assoc, lt, beq_eq_false_iff_ne.mpr (show i ≠ a by omega), beq_self_eq_true]
    simp
  · rename_i e
    rw [upd_at]
    split
    · rename_i e2
      subst e2
      rw [tb_and, tb_not, tb_bit (by omega), ← Bool.and_assoc, lt, beq_eq_false_iff_ne.mpr e, beq_self_eq_true]
      simp
    · rename_i e2
      simp [e, e2]
set_option maxRecDepth 16384 in
theorem Gd.join {K a b : Nat} {f : Nat → Int32} (g : Gd K f) (ha : a < K) (hb : b < K) (hab : a ≠ b) : Gd K (P_join K f (nI a) (nI b)) := by
  have hK := g.1
  refine ⟨hK, fun i j hi h => ?_, fun i j hi hj => ?_, fun i hi => ?_⟩
  · rw [join_tb hK ha hb hab i j hi] at h
    simp at h
    rcases h with (h | h) | h
    · exact g.2.1 i j hi h
    · omega
    · omega
  · rw [join_tb hK ha hb hab i j hi, join_tb hK ha hb hab j i hj, g.2.2.1 i j hi hj]
    cases tb (f j) i <;> simp
    rw [Bool.or_comm, Bool.and_comm (x := i == a), Bool.and_comm (x := i == b)]
  · rw [join_tb hK ha hb hab i i hi, g.2.2.2 i hi]
    simp
    omega
set_option maxRecDepth 16384 in
theorem Gd.loosen {K a b : Nat} {f : Nat → Int32} (g : Gd K f) (ha : a < K) (hb : b < K) (hab : a ≠ b) : Gd K (P_loosen K f (nI a) (nI b)) := by
  have hK := g.1
  refine ⟨hK, fun i j hi h => ?_, fun i j hi hj => ?_, fun i hi => ?_⟩
  · rw [loosen_tb hK ha hb hab i j hi, Bool.and_eq_true] at h
    exact g.2.1 i j hi h.1
  · rw [loosen_tb hK ha hb hab i j hi, loosen_tb hK ha hb hab j i hj, g.2.2.1 i j hi hj]
    congr 2
    rw [Bool.or_comm, Bool.and_comm (x := i == a), Bool.and_comm (x := i == b)]
  · rw [loosen_tb hK ha hb hab i i hi, g.2.2.2 i hi]
    rfl
set_option maxRecDepth 16384 in
theorem Gd.ext {K : Nat} {f g : Nat → Int32} (h : Gd K f) (e : ∀ i, i < 16 → g i = f i) : Gd K g :=
  ⟨h.1, fun i j hi q => h.2.1 i j hi (by rw [← e i hi]; exact q), fun i j hi hj => by rw [e i hi, e j hj]; exact h.2.2.1 i j hi hj, fun i hi => by rw [e i hi]; exact h.2.2.2 i hi⟩
set_option maxRecDepth 16384 in
theorem Gd.lay {K : Nat} (f : Nat → Int32) (hK : K ≤ 16) : Gd K (P_lay f) :=
  ⟨hK, fun i j hi q => (by rw [lay_at f hi, tb_zero] at q; cases q), fun i j hi hj => by rw [lay_at f hi, lay_at f hj, tb_zero, tb_zero], fun i hi => by rw [lay_at f hi, tb_zero]⟩
set_option maxRecDepth 16384 in
theorem Gd.take {K : Nat} {f g : Nat → Int32} (h : Gd K g) : Gd K (P_take f g) := h.ext (fun i hi => take_at f g hi)
/-! a closed walk that never turns back holds a ring -/
set_option maxRecDepth 16384 in
theorem closed_cyc {K n : Nat} {f : Nat → Int32} {p : Nat → Nat} (g : Gd K f) (hn : 1 ≤ n) (hper : ∀ i, p (i + n) = p i) (hst : ∀ i, p i < 16 ∧ tb (f (p i)) (p (i + 1)) = true) (hnb : ∀ i, p i ≠ p (i + 2)) : ∃ m w, m ≤ n ∧ Cyc f m w := by
  have ex : ∃ m, 1 ≤ m ∧ ∃ i, p i = p (i + m) := ⟨n, hn, 0, (hper 0).symm⟩
  obtain ⟨m, ⟨hm1, i, hi⟩, hmin⟩ : ∃ m, (1 ≤ m ∧ ∃ i, p i = p (i + m)) ∧ ∀ k, k < m → ¬ (1 ≤ k ∧ ∃ i, p i = p (i + k)) := by
    have : ∀ b, (∃ m, m ≤ b ∧ 1 ≤ m ∧ ∃ i, p i = p (i + m)) → ∃ m, (1 ≤ m ∧ ∃ i, p i = p (i + m)) ∧ ∀ k, k < m → ¬ (1 ≤ k ∧ ∃ i, p i = p (i + k)) := by
      intro b
      induction b with
      | zero => rintro ⟨m, a, b, _⟩; omega
      | succ b ih =>
        rintro ⟨m, a, c⟩
        rcases Classical.em (∃ m, m ≤ b ∧ 1 ≤ m ∧ ∃ i, p i = p (i + m)) with q | q
        · exact ih q
        · refine ⟨m, c, fun k hk z => q ⟨k, by omega, z⟩⟩
    obtain ⟨m, h⟩ := ex
    exact this m ⟨m, Nat.le_refl _, h⟩
  have hmn : m ≤ n := by
    rcases Nat.lt_or_ge n m with q | q
    · exact absurd ⟨hn, 0, (hper 0).symm⟩ (hmin n q)
    · exact q
  have h3 : 3 ≤ m := by
    rcases (by omega : m = 1 ∨ m = 2 ∨ 3 ≤ m) with e | e | e
    · subst e
      exact absurd hi (g.ne (hst i).1 (hst i).2)
    · subst e
      exact absurd hi (hnb i)
    · exact e
  obtain ⟨w, hw, _⟩ := cyc_of_way g (d := m - 1) (p := fun t => p (i + t)) (by omega) (fun t ht => hst (i + t)) (by
    have := (hst (i + (m - 1))).2
    rw [show i + (m - 1) + 1 = i + m from by omega, ← hi] at this
    exact this) (fun x y hxy hy e => by
      refine hmin (y - x) (by omega) ⟨by omega, i + x, ?_⟩
      rw [show i + x + (y - x) = i + y from by omega]
      exact e)
  rw [show m - 1 + 1 = m from by omega] at hw
  exact ⟨m, w, hmn, hw⟩
/-! doubles -/
-- d is a double of f: knots k and k + K over k; each near one of a knot stands over just one near one
set_option maxRecDepth 16384 in
def Dbl (K : Nat) (f d : Nat → Int32) : Prop := (∀ x y, x < 2 * K → tb (d x) y = true → y < 2 * K ∧ tb (f (x % K)) (y % K) = true) ∧ (∀ x y z, x < 2 * K → tb (d x) y = true → tb (d x) z = true → y % K = z % K → y = z) ∧ ∀ x k, x < 2 * K → tb (f (x % K)) k = true → ∃ y, tb (d x) y = true ∧ y % K = k
set_option maxRecDepth 16384 in
theorem dbl_cyc {K n : Nat} {f d : Nat → Int32} {w : Nat → Nat} (g : Gd K f) (gd : Gd (2 * K) d) (hd : Dbl K f d) (c : Cyc d n w) : ∃ m w', m ≤ n ∧ Cyc f m w' := by
  obtain ⟨c1, c2, c3, c4⟩ := c
  have hlt : ∀ i, w i < 2 * K := fun i => (gd.2.1 _ _ (c3 i).1 (c3 i).2).1
  have hK0 : 0 < K := by have := hlt 0; omega
  have hK := g.1
  refine closed_cyc (p := fun i => w i % K) g (by omega) (fun i => by show w (i + n) % K = w i % K; rw [c2]) (fun i => ⟨?_, ?_⟩) (fun i e => ?_)
  · have := Nat.mod_lt (w i) hK0
    omega
  · exact (hd.1 _ _ (hlt i) (c3 i).2).2
  · have e1 := gd.sym (c3 i).1 (c3 i).2
    have e2 := hd.2.1 (w (i + 1)) (w i) (w (i + 2)) (hlt _) e1 (c3 (i + 1)).2 e
    have := c4 _ _ e2
    have h1 : i % n < n := Nat.mod_lt _ (by omega)
    rw [Nat.add_mod i 2 n, Nat.mod_eq_of_lt (show 2 < n by omega)] at this
    rcases Nat.lt_or_ge (i % n + 2) n with q | q
    · rw [Nat.mod_eq_of_lt q] at this; omega
    · have e3 : (i % n + 2) % n = i % n + 2 - n := by rw [Nat.mod_eq_sub_mod q]; exact Nat.mod_eq_of_lt (by omega)
      rw [e3] at this
      omega
set_option maxRecDepth 16384 in
theorem dbl_count {K : Nat} {f d : Nat → Int32} (g : Gd K f) (gd : Gd (2 * K) d) (hd : Dbl K f d) {x : Nat} (hx : x < 2 * K) : dg d x = dg f (x % K) := by
  have hK0 : 0 < K := by omega
  have hK := g.1
  have hK2 := gd.1
  apply Nat.le_antisymm
  · have := cn_grow (R := fun u w => u % K == w) (A := tb (d x)) (B := tb (f (x % K))) (q := 1) (n := 16) (fun u hu h => by
      have a := hd.1 x u hx h
      exact cn_pos (k := u % K) (by have := Nat.mod_lt u hK0; omega) (by simp [a.2])) (fun w hw h => cn_le_one (fun a b ha hb pa pb => by
      simp at pa pb
      exact hd.2.1 x a b hx pa.1 pb.1 (by omega)))
    rw [Nat.one_mul] at this
    exact this
  · have := cn_grow (R := fun w u => u % K == w) (A := tb (f (x % K))) (B := tb (d x)) (q := 1) (n := 16) (fun u hu h => by
      obtain ⟨y, y1, y2⟩ := hd.2.2 x u hx h
      exact cn_pos (k := y) (gd.lt (by omega) y1) (by simp [y1, y2])) (fun w hw h => cn_le_one (fun a b ha hb pa pb => by
      simp at pa pb
      omega))
    rw [Nat.one_mul] at this
    exact this
