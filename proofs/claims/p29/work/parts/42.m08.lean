/-! the double that is laid -/
set_option maxRecDepth 16384 in
theorem modK {K x : Nat} (h : x < 2 * K) : (x < K ∧ x % K = x) ∨ (K ≤ x ∧ x % K = x - K) := by
  rcases Nat.lt_or_ge x K with q | q
  · exact Or.inl ⟨q, Nat.mod_eq_of_lt q⟩
  · refine Or.inr ⟨q, ?_⟩
    rw [Nat.mod_eq_sub_mod q]
    exact Nat.mod_eq_of_lt (by omega)
set_option maxRecDepth 16384 in
def DblP (K : Nat) (f : Nat → Int32) (P : Nat → Nat → Prop) (d : Nat → Int32) : Prop := Gd (2 * K) d ∧ (∀ x y, x < 2 * K → tb (d x) y = true → y < 2 * K ∧ tb (f (x % K)) (y % K) = true ∧ (P (x % K) (y % K) ∨ P (y % K) (x % K))) ∧
  (∀ x y z, x < 2 * K → tb (d x) y = true → tb (d x) z = true → y % K = z % K → y = z) ∧
  ∀ x k, x < 2 * K → tb (f (x % K)) k = true → (P (x % K) k ∨ P k (x % K)) → ∃ y, tb (d x) y = true ∧ y % K = k
set_option maxRecDepth 16384 in
theorem DblP.iff {K : Nat} {f d : Nat → Int32} {P Q : Nat → Nat → Prop} (h : DblP K f P d) (e : ∀ i j, i < K → j < K → tb (f i) j = true → (P i j ↔ Q i j)) (g : Gd K f) : DblP K f Q d := by
  have hK := g.1
  refine ⟨h.1, fun x y hx hy => ?_, h.2.2.1, fun x k hx hk hq => h.2.2.2 x k hx hk ?_⟩
  · obtain ⟨a, b, c⟩ := h.2.1 x y hx hy
    have l := g.2.1 _ _ (by have := Nat.mod_lt x (show 0 < K by omega); omega) b
    have b' := g.sym (by omega) b
    exact ⟨a, b, c.imp (e _ _ l.1 l.2 b).mp (e _ _ l.2 l.1 b').mp⟩
  · have l := g.2.1 _ _ (by have := Nat.mod_lt x (show 0 < K by omega); omega) hk
    have b' := g.sym (by omega) hk
    exact hq.imp (e _ _ l.1 l.2 hk).mpr (e _ _ l.2 l.1 b').mpr
set_option maxRecDepth 16384 in
def New (K i j : Nat) (m : Bool) (x y : Nat) : Prop := x < 2 * K ∧ y < 2 * K ∧ ((x % K = i ∧ y % K = j) ∨ (x % K = j ∧ y % K = i)) ∧ (decide (x < K) ^^ decide (y < K)) = m
set_option maxRecDepth 16384 in
theorem DblP.step {K i j : Nat} {f d d' : Nat → Int32} {P : Nat → Nat → Prop} (h : DblP K f P d) (g : Gd K f) (hi : i < K) (hj : j < K) (hij : i ≠ j) (hn : tb (f i) j = true) (m : Bool) (h1 : ¬ P i j) (h2 : ¬ P j i) (gd : Gd (2 * K) d')
    (e : ∀ x y, x < 2 * K → (tb (d' x) y = true ↔ (tb (d x) y = true ∨ New K i j m x y))) : DblP K f (fun a b => P a b ∨ (a = i ∧ b = j)) d' := by
  have hK := g.1
  have hn' := g.sym (by omega) hn
  have off : ∀ x y, x < 2 * K → tb (d x) y = true → ((x % K = i ∧ y % K = j) ∨ (x % K = j ∧ y % K = i)) → False := by
    intro x y hx hy q
    obtain ⟨a, b, c⟩ := h.2.1 x y hx hy
    rcases q with ⟨q1, q2⟩ | ⟨q1, q2⟩ <;> rw [q1, q2] at c <;> rcases c with c | c
    · exact h1 c
    · exact h2 c
    · exact h2 c
    · exact h1 c
  refine ⟨gd, fun x y hx hy => ?_, fun x y z hx hy hz q => ?_, fun x k hx hk hq => ?_⟩
  · rcases (e x y hx).mp hy with q | q
    · obtain ⟨a, b, c⟩ := h.2.1 x y hx q
      exact ⟨a, b, c.imp Or.inl Or.inl⟩
    · obtain ⟨a, b, c, _⟩ := q
      refine ⟨b, ?_, ?_⟩
      · rcases c with ⟨c1, c2⟩ | ⟨c1, c2⟩ <;> rw [c1, c2]
        · exact hn
        · exact hn'
      · rcases c with ⟨c1, c2⟩ | ⟨c1, c2⟩
        · exact Or.inl (Or.inr ⟨c1, c2⟩)
        · exact Or.inr (Or.inr ⟨c2, c1⟩)
  · rcases (e x y hx).mp hy with a | a <;> rcases (e x z hx).mp hz with b | b
    · exact h.2.2.1 x y z hx a b q
    · exact (off x y hx a (by rw [q]; exact b.2.2.1)).elim
    · exact (off x z hx b (by rw [← q]; exact a.2.2.1)).elim
    · obtain ⟨_, a2, _, a4⟩ := a
      obtain ⟨_, b2, _, b4⟩ := b
      rw [← b4] at a4
      have e4 : decide (y < K) = decide (z < K) := by
        revert a4
        cases decide (x < K) <;> cases decide (y < K) <;> cases decide (z < K) <;> simp
      have e5 : y < K ↔ z < K := by simpa using e4
      rcases modK a2 with ⟨p1, p2⟩ | ⟨p1, p2⟩ <;> rcases modK b2 with ⟨r1, r2⟩ | ⟨r1, r2⟩ <;> omega
  · rcases Classical.em (P (x % K) k ∨ P k (x % K)) with q | q
    · obtain ⟨y, y1, y2⟩ := h.2.2.2 x k hx hk q
      exact ⟨y, (e x y hx).mpr (Or.inl y1), y2⟩
    · have hc : (x % K = i ∧ k = j) ∨ (k = i ∧ x % K = j) := by
        rcases hq with (c | c) | (c | c)
        · exact absurd (Or.inl c) q
        · exact Or.inl c
        · exact absurd (Or.inr c) q
        · exact Or.inr c
      have hkK : k < K := by omega
      have mk : ∀ y, y < 2 * K → y % K = k → (decide (x < K) ^^ decide (y < K)) = m → ∃ y, tb (d' x) y = true ∧ y % K = k := fun y a b c => ⟨y, (e x y hx).mpr (Or.inr ⟨hx, a, by omega, c⟩), b⟩
      have l0 : k % K = k := Nat.mod_eq_of_lt hkK
      have l1 : (k + K) % K = k := by rw [Nat.add_mod_right]; exact l0
      cases hm : (decide (x < K) ^^ m)
      · refine mk (k + K) (by omega) l1 ?_
        rw [show decide (k + K < K) = false from decide_eq_false (by omega)]
        revert hm
        cases decide (x < K) <;> cases m <;> simp
      · refine mk k (by omega) l0 ?_
        rw [show decide (k < K) = true from decide_eq_true hkK]
        revert hm
        cases decide (x < K) <;> cases m <;> simp
set_option maxRecDepth 16384 in
theorem join2_new {K i j : Nat} {d : Nat → Int32} (hK : 2 * K ≤ 16) (hi : i < K) (hj : j < K) (hij : i ≠ j) (m : Bool) (gd : Gd (2 * K) d) (d' : Nat → Int32)
    (hd : d' = P_join (2 * K) (P_join (2 * K) d (nI i) (nI (j + if m then K else 0))) (nI (i + K)) (nI (j + if m then 0 else K))) : Gd (2 * K) d' ∧ ∀ x y, x < 2 * K → (tb (d' x) y = true ↔ (tb (d x) y = true ∨ New K i j m x y)) := by
  have b1 : j + (if m then K else 0) < 2 * K := by split <;> omega
  have b2 : j + (if m then 0 else K) < 2 * K := by split <;> omega
  have n1 : i ≠ j + (if m then K else 0) := by split <;> omega
  have n2 : i + K ≠ j + (if m then 0 else K) := by split <;> omega
  have g1 := gd.join (a := i) (b := j + if m then K else 0) (by omega) b1 n1
  have g2 := g1.join (a := i + K) (b := j + if m then 0 else K) (by omega) b2 n2
  subst hd
  refine ⟨g2, fun x y hx => ?_⟩
  rw [join_tb hK (by omega) b2 n2 x y (by omega), join_tb hK (by omega) b1 n1 x y (by omega)]
  simp only [Bool.or_eq_true, Bool.and_eq_true, beq_iff_eq]
  constructor
  · have mk : ∀ m' : Bool, m' = m → x < 2 * K → y < 2 * K → ((x % K = i ∧ y % K = j) ∨ (x % K = j ∧ y % K = i)) → (decide (x < K) ^^ decide (y < K)) = m' → New K i j m x y := fun m' a b c d e => ⟨b, c, d, by rw [e, a]⟩
    have md : ∀ z, z < K → z % K = z ∧ (z + K) % K = z := fun z hz => ⟨Nat.mod_eq_of_lt hz, by rw [Nat.add_mod_right]; exact Nat.mod_eq_of_lt hz⟩
    cases m
    · simp only [Bool.false_eq_true, if_false, Nat.add_zero]
      rintro ((((h | h) | h) | h) | h)
      · exact Or.inl h
      · right; rw [h.1, h.2]
        exact ⟨by omega, by omega, Or.inl ⟨(md i hi).1, (md j hj).1⟩, by simp [hi, hj]⟩
      · right; rw [h.1, h.2]
        exact ⟨by omega, by omega, Or.inr ⟨(md j hj).1, (md i hi).1⟩, by simp [hi, hj]⟩
      · right; rw [h.1, h.2]
        exact ⟨by omega, by omega, Or.inl ⟨(md i hi).2, (md j hj).2⟩, by simp; omega⟩
      · right; rw [h.1, h.2]
        exact ⟨by omega, by omega, Or.inr ⟨(md j hj).2, (md i hi).2⟩, by simp; omega⟩
    · simp only [if_true, Nat.add_zero]
      rintro ((((h | h) | h) | h) | h)
      · exact Or.inl h
      · right; rw [h.1, h.2]
        exact ⟨by omega, by omega, Or.inl ⟨(md i hi).1, (md j hj).2⟩, by simp [hi]⟩
      · right; rw [h.1, h.2]
        exact ⟨by omega, by omega, Or.inr ⟨(md j hj).2, (md i hi).1⟩, by simp [hi]⟩
      · right; rw [h.1, h.2]
        exact ⟨by omega, by omega, Or.inl ⟨(md i hi).2, (md j hj).1⟩, by simp [hj]⟩
      · right; rw [h.1, h.2]
        exact ⟨by omega, by omega, Or.inr ⟨(md j hj).1, (md i hi).2⟩, by simp [hj]⟩
  · rintro (h | ⟨h1, h2, h3, h4⟩)
    · exact Or.inl (Or.inl (Or.inl (Or.inl h)))
    · cases m
      · have e5 : x < K ↔ y < K := by
          revert h4
          rcases Nat.lt_or_ge x K with a | a <;> rcases Nat.lt_or_ge y K with b | b <;> simp [a, b, show ¬ x < K ↔ K ≤ x from Nat.not_lt, show ¬ y < K ↔ K ≤ y from Nat.not_lt] <;> omega
        simp only [Bool.false_eq_true, if_false, Nat.add_zero]
        rcases modK h1 with ⟨p1, p2⟩ | ⟨p1, p2⟩ <;> rcases modK h2 with ⟨r1, r2⟩ | ⟨r1, r2⟩ <;> rw [p2, r2] at h3 <;> omega
      · have e5 : x < K ↔ ¬ y < K := by
          revert h4
          rcases Nat.lt_or_ge x K with a | a <;> rcases Nat.lt_or_ge y K with b | b <;> simp [a, b, show ¬ x < K ↔ K ≤ x from Nat.not_lt, show ¬ y < K ↔ K ≤ y from Nat.not_lt] <;> omega
        simp only [if_true, Nat.add_zero]
        rcases modK h1 with ⟨p1, p2⟩ | ⟨p1, p2⟩ <;> rcases modK h2 with ⟨r1, r2⟩ | ⟨r1, r2⟩ <;> rw [p2, r2] at h3 <;> omega
set_option maxRecDepth 16384 in
theorem L_double35 {K one : Nat} {f : Nat → Int32} (g : Gd K f) (hK : 2 * K ≤ 16) (ho : one < K) {marks : Int32} {k : Int32 → (Nat → Int32) → Nat → Int32} : ∀ (n other : Nat) (number : Int32) (d : Nat → Int32), n + other = K → one < other →
    DblP K f (fun a b => a < b ∧ (a < one ∨ (a = one ∧ b < other))) d → ∃ number' d', L_layDouble_35 K f marks one k n other number d = k number' d' ∧ DblP K f (fun a b => a < b ∧ a < one + 1) d'
  | 0, other, number, d, hn, hoo, h => ⟨number, d, rfl, h.iff (fun i j hi hj _ => by omega) g⟩
  | n + 1, other, number, d, hn, hoo, h => by
    rw [L_layDouble_35, isNear_tb (by omega) (by omega)]
    cases e : tb (f one) other with
    | false =>
      rw [if_pos (by rfl)]
      refine L_double35 g hK ho n (other + 1) number d (by omega) (by omega) (h.iff (fun i j hi hj q => ?_) g)
      constructor
      · rintro ⟨a, b⟩; exact ⟨a, by omega⟩
      · rintro ⟨a, b⟩
        refine ⟨a, ?_⟩
        rcases b with b | ⟨b1, b2⟩
        · exact Or.inl b
        · rcases Nat.lt_or_ge j other with z | z
          · exact Or.inr ⟨b1, z⟩
          · have : j = other := by omega
            rw [b1, this, e] at q
            cases q
    | true =>
      rw [if_neg (by decide)]
      have st : ∀ m : Bool, ∀ d', d' = P_join (2 * K) (P_join (2 * K) d (nI one) (nI (other + if m then K else 0))) (nI (one + K)) (nI (other + if m then 0 else K)) → DblP K f (fun a b => a < b ∧ (a < one ∨ (a = one ∧ b < other + 1))) d' := by
        intro m d' hd
        obtain ⟨x1, x2⟩ := join2_new hK ho (by omega : other < K) (by omega) m h.1 d' hd
        exact (h.step g ho (by omega) (by omega) e m (by omega) (by omega) x1 x2).iff (fun i j hi hj _ => by
          constructor
          · rintro (⟨a, b⟩ | ⟨a, b⟩) <;> omega
          · rintro ⟨a, b⟩; omega) g
      have hm : P_holds marks number = 0 ∨ P_holds marks number = 1 := P_holds_b _ _
      simp only [bd, nI_add]
      rcases hm with hm | hm <;> rw [hm]
      · rw [if_pos rfl, if_pos rfl]
        have := st false _ rfl
        simp only [Bool.false_eq_true, if_false, Nat.add_zero] at this
        exact L_double35 g hK ho n (other + 1) _ _ (by omega) (by omega) this
      · rw [if_neg (by decide), if_neg (by decide)]
        have := st true _ rfl
        simp only [if_true, Nat.add_zero] at this
        exact L_double35 g hK ho n (other + 1) _ _ (by omega) (by omega) this
set_option maxRecDepth 16384 in
theorem L_double23 {K : Nat} {f : Nat → Int32} (g : Gd K f) (hK : 2 * K ≤ 16) {marks : Int32} : ∀ (n one : Nat) (number : Int32) (d : Nat → Int32), n + one = K →
    DblP K f (fun a b => a < b ∧ a < one) d → DblP K f (fun a b => a < b) (L_layDouble_23 K f marks (fun number fa => fa) n one number d)
  | 0, one, number, d, hn, h => h.iff (fun i j hi hj _ => by omega) g
  | n + 1, one, number, d, hn, h => by
    rw [L_layDouble_23]
    obtain ⟨number', d', e1, e2⟩ := L_double35 (one := one) (k := fun number fb => L_layDouble_23 K f marks (fun number fa => fa) n (one + 1) number fb) (marks := marks) g hK (by omega) (K - (one + 1)) (one + 1) number d (by omega) (by omega) (h.iff (fun i j hi hj _ => by omega) g)
    rw [e1]
    exact L_double23 g hK n (one + 1) number' d' (by omega) e2
-- the double that is laid is one
set_option maxRecDepth 16384 in
theorem layDouble_spec {K : Nat} {f fs : Nat → Int32} (g : Gd K f) (hK : 2 * K ≤ 16) (marks : Int32) : Gd (2 * K) (P_layDouble K f fs marks) ∧ Dbl K f (P_layDouble K f fs marks) := by
  rw [P_layDouble]
  simp only [bd]
  have r := L_double23 g hK (marks := marks) K 0 0 (P_lay fs) rfl ⟨Gd.lay fs hK, fun x y hx hy => (by rw [lay_at fs (by omega), tb_zero] at hy; cases hy), fun x y z hx hy => (by rw [lay_at fs (by omega), tb_zero] at hy; cases hy), fun x k hx hk hq => (by omega)⟩
  refine ⟨r.1, fun x y hx hy => ⟨(r.2.1 x y hx hy).1, (r.2.1 x y hx hy).2.1⟩, r.2.2.1, fun x k hx hk => r.2.2.2 x k hx hk ?_⟩
  have h1 : x % K < 16 := by have := Nat.mod_lt x (show 0 < K by omega); omega
  have := g.ne h1 hk
  omega
