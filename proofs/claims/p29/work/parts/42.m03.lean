/-! rings -/
-- the rows of a garden: from both sides, no knot near itself
set_option maxRecDepth 16384 in
def Gd (K : Nat) (f : Nat → Int32) : Prop := K ≤ 16 ∧ (∀ i j, i < 16 → tb (f i) j = true → i < K ∧ j < K) ∧ (∀ i j, i < 16 → j < 16 → tb (f i) j = tb (f j) i) ∧ ∀ i, i < 16 → tb (f i) i = false
set_option maxRecDepth 16384 in
theorem Gd.rows {K : Nat} {f : Nat → Int32} (g : Gd K f) : Rows f := fun i hi k hk => by
  cases e : tb (f i) k with
  | false => rfl
  | true => have := g.2.1 i k hi e; have := g.1; omega
set_option maxRecDepth 16384 in
theorem Gd.lt {K : Nat} {f : Nat → Int32} (g : Gd K f) {i j : Nat} (hi : i < 16) (h : tb (f i) j = true) : j < 16 := by have := g.2.1 i j hi h; have := g.1; omega
set_option maxRecDepth 16384 in
theorem Gd.sym {K : Nat} {f : Nat → Int32} (g : Gd K f) {i j : Nat} (hi : i < 16) (h : tb (f i) j = true) : tb (f j) i = true := by rw [← g.2.2.1 i j hi (g.lt hi h)]; exact h
set_option maxRecDepth 16384 in
theorem Gd.ne {K : Nat} {f : Nat → Int32} (g : Gd K f) {i j : Nat} (hi : i < 16) (h : tb (f i) j = true) : i ≠ j := fun e => by subst e; rw [g.2.2.2 i hi] at h; cases h
-- a ring of n knots, walked along for ever
set_option maxRecDepth 16384 in
def Cyc (f : Nat → Int32) (n : Nat) (w : Nat → Nat) : Prop := 3 ≤ n ∧ (∀ i, w (i + n) = w i) ∧ (∀ i, w i < 16 ∧ tb (f (w i)) (w (i + 1)) = true) ∧ ∀ i j, w i = w j → i % n = j % n
-- a way from a knot to a near one, not by their edge, not back to the first
set_option maxRecDepth 16384 in
def Way (f : Nat → Int32) (a b d : Nat) (p : Nat → Nat) : Prop := p 0 = a ∧ p 1 ≠ b ∧ p d = b ∧ (∀ i, i < d → p i < 16 ∧ tb (f (p i)) (p (i + 1)) = true) ∧ ∀ i, 1 ≤ i → i ≤ d → p i ≠ a
-- a simple way that closes is a ring
set_option maxRecDepth 16384 in
theorem cyc_of_way {K : Nat} {f : Nat → Int32} (g : Gd K f) {d : Nat} {p : Nat → Nat} (hd : 2 ≤ d) (hs : ∀ i, i < d → p i < 16 ∧ tb (f (p i)) (p (i + 1)) = true) (hc : tb (f (p d)) (p 0) = true) (hi : ∀ x y, x < y → y ≤ d → p x ≠ p y) : ∃ w, Cyc f (d + 1) w ∧ ∀ i, i ≤ d → w i = p i := by
  have hd16 : p d < 16 := by
    have := hs (d - 1) (by omega)
    rw [show d - 1 + 1 = d from by omega] at this
    exact g.lt this.1 this.2
  refine ⟨fun i => p (i % (d + 1)), ⟨by omega, fun i => ?_, fun i => ?_, fun i j e => ?_⟩, fun i h => by show p (i % (d + 1)) = p i; rw [Nat.mod_eq_of_lt (by omega)]⟩
  · show p ((i + (d + 1)) % (d + 1)) = p (i % (d + 1))
    rw [Nat.add_mod_right]
  · show p (i % (d + 1)) < 16 ∧ tb (f (p (i % (d + 1)))) (p ((i + 1) % (d + 1))) = true
    have hm : i % (d + 1) < d + 1 := Nat.mod_lt _ (by omega)
    rcases Nat.lt_or_ge (i % (d + 1)) d with q | q
    · rw [show (i + 1) % (d + 1) = i % (d + 1) + 1 from by rw [Nat.add_mod, Nat.mod_eq_of_lt (show 1 < d + 1 by omega), Nat.mod_eq_of_lt (by omega)]]
      exact hs _ q
    · have e : i % (d + 1) = d := by omega
      rw [show (i + 1) % (d + 1) = 0 from by rw [Nat.add_mod, Nat.mod_eq_of_lt (show 1 < d + 1 by omega), e, Nat.mod_self], e]
      exact ⟨hd16, hc⟩
  · have e : p (i % (d + 1)) = p (j % (d + 1)) := e
    have h1 : i % (d + 1) < d + 1 := Nat.mod_lt _ (by omega)
    have h2 : j % (d + 1) < d + 1 := Nat.mod_lt _ (by omega)
    rcases Nat.lt_trichotomy (i % (d + 1)) (j % (d + 1)) with q | q | q
    · exact absurd e (hi _ _ q (by omega))
    · exact q
    · exact absurd e.symm (hi _ _ q (by omega))
set_option maxRecDepth 16384 in
theorem L_ringBy {K : Nat} {f : Nat → Int32} (g : Gd K f) {a b : Nat} (ha : a < 16) (hab : tb (f a) b = true) : ∀ (n t : Nat) (seen brink : Int32), n + t = 15 → 1 ≤ t → Sml seen → Sml brink →
    tb seen a = true → tb seen b = false → tb brink b = false → (∀ j, tb brink j = true → tb seen j = false) →
    (∀ j, tb brink j = true → ∃ p : Nat → Nat, p 0 = a ∧ p t = j ∧ (∀ i, i < t → p i < 16 ∧ tb (f (p i)) (p (i + 1)) = true ∧ tb seen (p i) = true) ∧ ∀ x y, x < y → y ≤ t → p x ≠ p y) →
    (∀ m, m < 16 → tb seen m = true → m ≠ a → ∀ j, tb (f m) j = true → tb seen j = true ∨ tb brink j = true) →
    (∀ d p, Way f a b d p → ∀ i, 1 ≤ i → i ≤ t → i ≤ d → tb seen (p i) = true ∨ tb brink (p i) = true) →
    (L_leastRingBy_22 f (nI a) (nI b) (fun seen brink => -1) n (t + 2) seen brink = -1 ∧ ∀ d p, Way f a b d p → d ≤ 15 → False) ∨
    ∃ l, 3 ≤ l ∧ l ≤ 16 ∧ L_leastRingBy_22 f (nI a) (nI b) (fun seen brink => -1) n (t + 2) seen brink = nI l ∧ (∃ w, Cyc f l w) ∧ ∀ d p, Way f a b d p → d ≤ 15 → l ≤ d + 1
  | 0, t, seen, brink, hn, ht, s1, s2, h1, h2, h3, h4, h5, h6, h7 => Or.inl ⟨rfl, fun d p w hd => by
      have d1 : 1 ≤ d := by
        rcases Nat.eq_zero_or_pos d with q | q
        · subst q
          exfalso
          have : a = b := w.1.symm.trans w.2.2.1
          subst this
          rw [h1] at h2; cases h2
        · exact q
      have := h7 d p w d d1 (by omega) (Nat.le_refl _)
      rw [w.2.2.1, h2, h3] at this
      rcases this with q | q <;> cases q⟩
  | n + 1, t, seen, brink, hn, ht, s1, s2, h1, h2, h3, h4, h5, h6, h7 => by
    have hb16 : b < 16 := g.lt ha hab
    have dpos : ∀ d p, Way f a b d p → t + 1 ≤ d := fun d p w => by
      rcases Nat.lt_or_ge t d with q | q
      · exact q
      · exfalso
        rcases Nat.eq_zero_or_pos d with z | z
        · subst z
          have : a = b := w.1.symm.trans w.2.2.1
          subst this
          rw [h1] at h2; cases h2
        · have := h7 d p w d z q (Nat.le_refl _)
          rw [w.2.2.1, h2, h3] at this
          rcases this with q | q <;> cases q
    rw [L_leastRingBy_22]
    split
    · rename_i e
      refine Or.inl ⟨rfl, fun d p w hd => ?_⟩
      have all : ∀ i, i ≤ d → 1 ≤ i → tb seen (p i) = true := by
        intro i
        induction i with
        | zero => intro _ q; omega
        | succ i ih =>
          intro hi _
          rcases Nat.eq_zero_or_pos i with z | z
          · subst z
            have := h7 d p w 1 (by omega) ht hi
            rw [e, tb_zero] at this
            exact this.elim id (fun q => by cases q)
          · have := h6 (p i) (w.2.2.2.1 i (by omega)).1 (ih (by omega) z) (w.2.2.2.2 i z (by omega)) _ (w.2.2.2.1 i (by omega)).2
            rw [e, tb_zero] at this
            exact this.elim id (fun q => by cases q)
      have := all d (Nat.le_refl _) (by have := dpos d p w; omega)
      rw [w.2.2.1, h2] at this
      cases this
    · simp only [bd]
      obtain ⟨a1, a2⟩ := around_spec g.rows s2
      have hnew : ∀ j, tb (P_around f brink &&& ((seen ||| brink) ^^^ -1)) j = true ↔ (tb (P_around f brink) j = true ∧ tb seen j = false ∧ tb brink j = false) := by
        intro j
        rw [tb_and, tb_not, tb_or]
        constructor
        · intro q
          simp at q
          exact ⟨q.1, q.2.2.1, q.2.2.2⟩
        · rintro ⟨q1, q2, q3⟩
          rw [q1, q2, q3]
          simp [tb_lt q1]
      have s3 : Sml (P_around f brink &&& ((seen ||| brink) ^^^ -1)) := a1.and
      generalize hB : (P_around f brink &&& ((seen ||| brink) ^^^ -1)) = brink' at hnew s3
      have hpath : ∀ j, tb brink' j = true → ∃ p : Nat → Nat, p 0 = a ∧ p (t + 1) = j ∧ (∀ i, i < t + 1 → p i < 16 ∧ tb (f (p i)) (p (i + 1)) = true ∧ tb (seen ||| brink) (p i) = true) ∧ ∀ x y, x < y → y ≤ t + 1 → p x ≠ p y := by
        intro j hj
        obtain ⟨q1, q2, q3⟩ := (hnew j).mp hj
        obtain ⟨m, hm, c1, c2⟩ := (a2 j).mp q1
        obtain ⟨p, e1, e2, e3, e4⟩ := h5 m c1
        obtain ⟨p', x1, x2⟩ := path_ext p t j
        refine ⟨p', by rw [x2 0 (by omega)]; exact e1, x1, fun i hi => ?_, fun x y hxy hy => ?_⟩
        · rcases Nat.lt_or_ge i t with z | z
          · rw [x2 i (by omega), x2 (i + 1) (by omega), tb_or, (e3 i z).2.2]
            exact ⟨(e3 i z).1, (e3 i z).2.1, rfl⟩
          · have : i = t := by omega
            subst this
            rw [x1, x2 i (by omega), e2, tb_or, c1, Bool.or_true]
            exact ⟨hm, c2, rfl⟩
        · rcases Nat.lt_or_ge y (t + 1) with z | z
          · rw [x2 x (by omega), x2 y (by omega)]; exact e4 x y hxy (by omega)
          · rw [show y = t + 1 from by omega, x1, x2 x (by omega)]
            intro eq
            rcases Nat.lt_or_ge x t with z2 | z2
            · have := (e3 x z2).2.2
              rw [eq, q2] at this; cases this
            · rw [show x = t from by omega, e2] at eq
              rw [← eq, c1] at q3; cases q3
      rw [holds_tb (by omega)]
      cases hbb : tb brink' b with
      | false =>
        rw [if_pos (by rfl)]
        refine L_ringBy g ha hab n (t + 1) (seen ||| brink) brink' (by omega) (by omega) (s1.or s2) s3 (by rw [tb_or, h1]; rfl) (by rw [tb_or, h2, h3]; rfl) hbb (fun j hj => ?_) hpath (fun m hm q hma j c => ?_) (fun d p w i i1 i2 i3 => ?_)
        · obtain ⟨q1, q2, q3⟩ := (hnew j).mp hj
          rw [tb_or, q2, q3]; rfl
        · rw [tb_or, Bool.or_eq_true] at q ⊢
          rcases q with q | q
          · exact Or.inl (h6 m hm q hma j c)
          · cases y1 : tb seen j with
            | true => exact Or.inl (Or.inl rfl)
            | false =>
              cases y2 : tb brink j with
              | true => exact Or.inl (Or.inr rfl)
              | false => exact Or.inr ((hnew j).mpr ⟨(a2 j).mpr ⟨m, hm, q, c⟩, y1, y2⟩)
        · rw [tb_or, Bool.or_eq_true]
          rcases Nat.lt_or_ge i (t + 1) with z | z
          · exact Or.inl (h7 d p w i i1 (by omega) i3)
          · have hi : i = t + 1 := by omega
            subst hi
            have st := w.2.2.2.1 t (by omega)
            rcases h7 d p w t ht (Nat.le_refl _) (by omega) with q | q
            · exact Or.inl (h6 (p t) st.1 q (w.2.2.2.2 t ht (by omega)) _ st.2)
            · cases y1 : tb seen (p (t + 1)) with
              | true => exact Or.inl (Or.inl rfl)
              | false =>
                cases y2 : tb brink (p (t + 1)) with
                | true => exact Or.inl (Or.inr rfl)
                | false => exact Or.inr ((hnew _).mpr ⟨(a2 _).mpr ⟨p t, st.1, q, st.2⟩, y1, y2⟩)
      | true =>
        rw [if_neg (by decide)]
        obtain ⟨p, e1, e2, e3, e4⟩ := hpath b hbb
        obtain ⟨w, hw, _⟩ := cyc_of_way g (d := t + 1) (p := p) (by omega) (fun i hi => ⟨(e3 i hi).1, (e3 i hi).2.1⟩) (by rw [e2, e1]; exact g.sym ha hab) e4
        exact Or.inr ⟨t + 2, by omega, by omega, rfl, ⟨w, hw⟩, fun d p w _ => by have := dpos d p w; omega⟩
set_option maxRecDepth 16384 in
theorem ringBy_spec {K : Nat} {f : Nat → Int32} (g : Gd K f) {a b : Nat} (ha : a < 16) (hab : tb (f a) b = true) :
    (P_leastRingBy f (nI a) (nI b) = -1 ∧ ∀ d p, Way f a b d p → d ≤ 15 → False) ∨
    ∃ l, 3 ≤ l ∧ l ≤ 16 ∧ P_leastRingBy f (nI a) (nI b) = nI l ∧ (∃ w, Cyc f l w) ∧ ∀ d p, Way f a b d p → d ≤ 15 → l ≤ d + 1 := by
  have hb16 : b < 16 := g.lt ha hab
  have hne := g.ne ha hab
  rw [P_leastRingBy]
  simp only [bd]
  rw [nearOf_nI ha]
  have hbit := tb_bit (k := a) (by omega)
  have hbr : ∀ j, tb (f a &&& (P_bit (nI b) ^^^ -1)) j = true ↔ (tb (f a) j = true ∧ j ≠ b) := by
    intro j
    rw [tb_and, tb_not, tb_bit (by omega)]
    constructor
    · intro q
      simp at q
      exact ⟨q.1, q.2.2⟩
    · rintro ⟨q1, q2⟩
      rw [q1]
      simp [tb_lt q1, q2]
  refine L_ringBy g ha hab 14 1 _ _ rfl (by omega) (Sml.bit ha) (g.rows a ha).and (by rw [hbit]; simp) (by rw [hbit]; simp; omega) ?_ (fun j hj => ?_) (fun j hj => ?_) (fun m hm q hma => ?_) (fun d p w i i1 i2 i3 => ?_)
  · cases e : tb (f a &&& (P_bit (nI b) ^^^ -1)) b with
    | false => rfl
    | true => exact absurd rfl ((hbr b).mp e).2
  · have := g.ne ha ((hbr j).mp hj).1
    rw [hbit]; simp; omega
  · refine ⟨fun i => if i = 0 then a else j, rfl, rfl, fun i hi => ?_, fun x y hxy hy => ?_⟩
    · have : i = 0 := by omega
      subst this
      exact ⟨ha, ((hbr j).mp hj).1, by show tb (P_bit (nI a)) a = true; rw [hbit]; simp⟩
    · have e1 : x = 0 := by omega
      have e2 : y = 1 := by omega
      subst e1; subst e2
      exact g.ne ha ((hbr j).mp hj).1
  · rw [hbit] at q
    simp at q
    exact absurd q hma
  · have : i = 1 := by omega
    subst this
    right
    have st := w.2.2.2.1 0 (by omega)
    rw [w.1] at st
    exact (hbr _).mpr ⟨st.2, w.2.1⟩
