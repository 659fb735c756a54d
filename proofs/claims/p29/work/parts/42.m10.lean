/-! an edge more between knots that are far apart -/
set_option maxRecDepth 16384 in
theorem walk_ball {f : Nat → Int32} {p : Nat → Nat} {d : Nat} (h : ∀ i, i < d → p i < 16 ∧ tb (f (p i)) (p (i + 1)) = true) : ∀ i, i ≤ d → ball f (p 0) i (p i)
  | 0, _ => rfl
  | i + 1, hi => Or.inr ⟨p i, (h i (by omega)).1, walk_ball h i (by omega), (h i (by omega)).2⟩
set_option maxRecDepth 16384 in
theorem ball_mono {f : Nat → Int32} {v i x : Nat} : ∀ {n : Nat}, ball f v i x → ball f v (i + n) x
  | 0, h => h
  | n + 1, h => Or.inl (ball_mono (n := n) h)
set_option maxRecDepth 16384 in
theorem ball_le {f : Nat → Int32} {v i j x : Nat} (h : ball f v i x) (hij : i ≤ j) : ball f v j x := by
  have := ball_mono (n := j - i) h
  rw [show i + (j - i) = j from by omega] at this
  exact this
set_option maxRecDepth 16384 in
theorem ball_symm {K : Nat} {f : Nat → Int32} (g : Gd K f) {v t x : Nat} (h : ball f v t x) : ball f x t v := by
  obtain ⟨d, p, a, b, c, e, _⟩ := ball_walk t x h
  have := walk_ball (f := f) (p := fun i => p (d - i)) (d := d) (fun i hi => by
    have st := e (d - (i + 1)) (by omega)
    rw [show d - (i + 1) + 1 = d - i from by omega] at st
    exact ⟨g.lt st.1 st.2, g.sym st.1 st.2⟩) d (Nat.le_refl _)
  have this : ball f (p (d - 0)) d (p (d - d)) := this
  rw [Nat.sub_zero, Nat.sub_self, b, c] at this
  exact ball_le this a
set_option maxRecDepth 16384 in
theorem Cyc.mono {f g : Nat → Int32} {n : Nat} {w : Nat → Nat} (h : Cyc f n w) (e : ∀ i j, i < 16 → tb (f i) j = true → tb (g i) j = true) : Cyc g n w :=
  ⟨h.1, h.2.1, fun i => ⟨(h.2.2.1 i).1, e _ _ (h.2.2.1 i).1 (h.2.2.1 i).2⟩, h.2.2.2⟩
set_option maxRecDepth 16384 in
theorem NoRing.join {K a b L : Nat} {f : Nat → Int32} (g : Gd K f) (ha : a < K) (hb : b < K) (hab : a ≠ b) (hn : NoRing f L) (hL : 2 ≤ L) (far : ¬ ball f a (L - 2) b) : NoRing (P_join K f (nI a) (nI b)) L := by
  intro n w hnL c
  have hK := g.1
  have jt := fun i j hi => join_tb (f := f) hK ha hb hab i j hi
  have ed : ∀ i, tb (f (w i)) (w (i + 1)) = true ∨ (w i = a ∧ w (i + 1) = b) ∨ (w i = b ∧ w (i + 1) = a) := fun i => by
    have := (c.2.2.1 i).2
    rw [jt _ _ (c.2.2.1 i).1] at this
    simp only [Bool.or_eq_true, Bool.and_eq_true, beq_iff_eq] at this
    rcases this with (h | h) | h
    · exact Or.inl h
    · exact Or.inr (Or.inl h)
    · exact Or.inr (Or.inr h)
  obtain ⟨c1, c2, c3, c4⟩ := c
  rcases Classical.em (∃ i, (w i = a ∧ w (i + 1) = b) ∨ (w i = b ∧ w (i + 1) = a)) with ⟨i, hi⟩ | no
  · have st : ∀ j, j < n - 1 → w (i + 1 + j) < 16 ∧ tb (f (w (i + 1 + j))) (w (i + 1 + (j + 1))) = true := by
      intro j hj
      refine ⟨(c3 _).1, ?_⟩
      rcases ed (i + 1 + j) with h | h
      · exact h
      · exfalso
        have e : w (i + 1 + j) = w (i + 1) ∨ w (i + 1 + j) = w i := by
          rcases hi with ⟨p, q⟩ | ⟨p, q⟩ <;> rcases h with ⟨r, s⟩ | ⟨r, s⟩ <;> rw [r, p, q] <;> simp
        have e2 : w (i + 1 + j + 1) = w (i + 1) ∨ w (i + 1 + j + 1) = w i := by
          rcases hi with ⟨p, q⟩ | ⟨p, q⟩ <;> rcases h with ⟨r, s⟩ | ⟨r, s⟩ <;> rw [s, p, q] <;> simp
        have key : ∀ x y, w (x + y) = w x → y % n = 0 := fun x y h => by
          have := c4 _ _ h
          have h1 : x % n < n := Nat.mod_lt _ (by omega)
          have h2 : y % n < n := Nat.mod_lt _ (by omega)
          rw [Nat.add_mod] at this
          rcases Nat.lt_or_ge (x % n + y % n) n with z | z
          · rw [Nat.mod_eq_of_lt z] at this; omega
          · rw [Nat.mod_eq_sub_mod z, Nat.mod_eq_of_lt (show x % n + y % n - n < n by omega)] at this
            omega
        rcases e with e | e
        · have := key (i + 1) j e
          rw [Nat.mod_eq_of_lt (by omega)] at this
          subst this
          rcases e2 with e2 | e2
          · have := key (i + 1) 1 e2
            rw [Nat.mod_eq_of_lt (by omega)] at this
            omega
          · have := key i 2 e2
            rw [Nat.mod_eq_of_lt (by omega)] at this
            omega
        · rw [show i + 1 + j = i + (1 + j) from by omega] at e
          have := key i (1 + j) e
          rw [Nat.mod_eq_of_lt (by omega)] at this
          omega
    have bl := walk_ball (f := f) (p := fun j => w (i + 1 + j)) (d := n - 1) st (n - 1) (Nat.le_refl _)
    have bl : ball f (w (i + 1 + 0)) (n - 1) (w (i + 1 + (n - 1))) := bl
    rw [show i + 1 + (n - 1) = i + n from by omega, c2, Nat.add_zero] at bl
    rcases hi with ⟨p, q⟩ | ⟨p, q⟩ <;> rw [p, q] at bl
    · exact far (ball_le (ball_symm g bl) (by omega))
    · exact far (ball_le bl (by omega))
  · refine hn n w hnL ⟨c1, c2, fun i => ⟨(c3 i).1, ?_⟩, c4⟩
    rcases ed i with h | h
    · exact h
    · exact absurd ⟨i, h⟩ no
set_option maxRecDepth 16384 in
theorem NoRing.loosen {K a b L : Nat} {f : Nat → Int32} (hK : K ≤ 16) (ha : a < K) (hb : b < K) (hab : a ≠ b) (hn : NoRing f L) : NoRing (P_loosen K f (nI a) (nI b)) L := fun n w h c =>
  hn n w h (c.mono (fun i j hi q => by
    rw [loosen_tb hK ha hb hab i j hi, Bool.and_eq_true] at q
    exact q.1))
set_option maxRecDepth 16384 in
theorem dg_join_le {K a b u : Nat} {f : Nat → Int32} (hK : K ≤ 16) (ha : a < K) (hb : b < K) (hab : a ≠ b) (hu : u < 16) : dg (P_join K f (nI a) (nI b)) u ≤ dg f u + (if u = a ∨ u = b then 1 else 0) := by
  have e : dg (P_join K f (nI a) (nI b)) u ≤ cn (fun j => tb (f u) j || (u == a && j == b) || (u == b && j == a)) 16 := cn_le (fun k hk q => by rw [← join_tb hK ha hb hab u k hu]; exact q)
  refine Nat.le_trans e ?_
  have o1 := cn_or (fun j => tb (f u) j || (u == a && j == b)) (fun j => u == b && j == a) 16
  have o2 := cn_or (tb (f u)) (fun j => u == a && j == b) 16
  have s1 : cn (fun j => u == a && j == b) 16 ≤ if u = a then 1 else 0 := by
    split
    · exact cn_le_one (fun x y _ _ p q => by simp at p q; omega)
    · rename_i h; rw [cn_zero (fun k _ => by simp [h])]; exact Nat.le_refl _
  have s2 : cn (fun j => u == b && j == a) 16 ≤ if u = b then 1 else 0 := by
    split
    · exact cn_le_one (fun x y _ _ p q => by simp at p q; omega)
    · rename_i h; rw [cn_zero (fun k _ => by simp [h])]; exact Nat.le_refl _
  rw [dg]
  split
  · rename_i h
    rcases h with h | h
    · rw [if_pos h] at s1; rw [if_neg (by omega)] at s2; omega
    · rw [if_pos h] at s2; rw [if_neg (by omega)] at s1; omega
  · rename_i h
    rw [if_neg (by omega)] at s1 s2
    omega
set_option maxRecDepth 16384 in
theorem dg_mono {f g : Nat → Int32} {u : Nat} (e : ∀ j, j < 16 → tb (f u) j = true → tb (g u) j = true) : dg f u ≤ dg g u := cn_le e
/-! gardens that keep to an aim, and where the search still looks -/
set_option maxRecDepth 16384 in
def Valid (K c L : Nat) (G : Nat → Int32) : Prop := Gd K G ∧ (∀ u, u < K → dg G u = c) ∧ NoRing G L
set_option maxRecDepth 16384 in
def Ed (G : Nat → Int32) (q : Nat) : Prop := tb (G (q / 16)) (q % 16) = true
set_option maxRecDepth 16384 in
theorem Ed_iff {K q i j : Nat} {G : Nat → Int32} (g : Gd K G) (hq : q < 256) (h : Pr q i j) (hi : i < 16) : tb (G i) j = true ↔ Ed G q := by
  rw [Ed]
  rcases h with ⟨h1, h2⟩ | ⟨h1, h2⟩
  · rw [h1, h2]
  · rw [h1, h2, g.2.2.1 (q % 16) (q / 16) (by omega) (by omega)]
-- what the puts and bars say: the rows are the puts' edges; at the t-th put s t bars stood
set_option maxRecDepth 16384 in
def Puts (K : Nat) (f puts bap : Nat → Int32) (pm : Int32) (e s : Nat → Nat) (p b : Nat) : Prop := p ≤ 40 ∧ pm = nI p ∧ (∀ t, t < p → puts t = nI (e t) ∧ e t < 256 ∧ e t / 16 < K ∧ e t % 16 < K ∧ e t / 16 ≠ e t % 16 ∧ bap t = nI (s t) ∧ s t ≤ b) ∧
  (∀ t u, t < u → u < p → s t ≤ s u) ∧ (∀ t u, t < u → u < p → ∀ i j, Pr (e t) i j → ¬ Pr (e u) i j) ∧ ∀ i j, i < 16 → (tb (f i) j = true ↔ ∃ t, t < p ∧ Pr (e t) i j)
set_option maxRecDepth 16384 in
def Looks (G : Nat → Int32) (q e s : Nat → Nat) (p b : Nat) : Prop := ((∀ t, t < p → Ed G (e t)) ∧ ∀ t, t < b → ¬ Ed G (q t)) ∨ ∃ t, t < p ∧ (∀ u, u < t → Ed G (e u)) ∧ ¬ Ed G (e t) ∧ ∀ u, u < s t → ¬ Ed G (q u)
