/-! the least ring of all -/
set_option maxRecDepth 16384 in
def Mn (r : Int32) (S : Nat → Prop) : Prop := (r = -1 ∧ ∀ l, ¬ S l) ∨ ∃ l, 3 ≤ l ∧ l ≤ 16 ∧ r = nI l ∧ S l ∧ ∀ l', S l' → l ≤ l'
set_option maxRecDepth 16384 in
theorem Mn.iff {r : Int32} {S T : Nat → Prop} (h : Mn r S) (e : ∀ l, S l ↔ T l) : Mn r T := by
  rcases h with ⟨a, b⟩ | ⟨l, a, b, c, d, g⟩
  · exact Or.inl ⟨a, fun l q => b l ((e l).mpr q)⟩
  · exact Or.inr ⟨l, a, b, c, (e l).mp d, fun l' q => g l' ((e l').mpr q)⟩
set_option maxRecDepth 16384 in
theorem nI_nem1 {l : Nat} (h : l < 2 ^ 31) : ¬ nI l = -1 := fun e => by
  have a := nI_toInt h
  rw [e] at a
  have : (-1 : Int32).toInt = -1 := by decide
  omega
set_option maxRecDepth 16384 in
theorem Mn.lesser {r s : Int32} {S T : Nat → Prop} (h : Mn r S) (g : Mn s T) : Mn (P_lesser r s) (fun l => S l ∨ T l) := by
  rw [P_lesser]
  rcases h with ⟨a, b⟩ | ⟨l, a1, a2, a3, a4, a5⟩
  · rw [if_pos a]
    exact g.iff (fun l => ⟨Or.inr, fun q => q.elim (fun z => absurd z (b l)) id⟩)
  · rw [if_neg (by rw [a3]; exact nI_nem1 (by omega))]
    rcases g with ⟨c, d⟩ | ⟨m, b1, b2, b3, b4, b5⟩
    · rw [if_pos c]
      exact Or.inr ⟨l, a1, a2, a3, Or.inl a4, fun l' q => q.elim (a5 l') (fun z => absurd z (d l'))⟩
    · rw [if_neg (by rw [b3]; exact nI_nem1 (by omega))]
      split
      · rename_i q
        have : m < l := by
          rcases Nat.lt_or_ge m l with z | z
          · exact z
          · rw [a3, b3] at q
            exact absurd q (nI_nlt z (by omega))
        exact Or.inr ⟨m, b1, b2, b3, Or.inr b4, fun l' q => q.elim (fun z => by have := a5 l' z; omega) (b5 l')⟩
      · rename_i q
        have : l ≤ m := by
          rcases Nat.lt_or_ge m l with z | z
          · rw [a3, b3] at q
            exact absurd (nI_lt z (by omega)) q
          · exact z
        exact Or.inr ⟨l, a1, a2, a3, Or.inl a4, fun l' q => q.elim (a5 l') (fun z => by have := b5 l' z; omega)⟩
set_option maxRecDepth 16384 in
def RBy (f : Nat → Int32) (a b l : Nat) : Prop := 3 ≤ l ∧ l ≤ 16 ∧ P_leastRingBy f (nI a) (nI b) = nI l
set_option maxRecDepth 16384 in
theorem nI_inj {a b : Nat} (ha : a < 2 ^ 31) (hb : b < 2 ^ 31) (h : nI a = nI b) : a = b := (nI_eq ha hb).mp h
set_option maxRecDepth 16384 in
theorem RBy_mn {K : Nat} {f : Nat → Int32} (g : Gd K f) {a b : Nat} (ha : a < 16) (hab : tb (f a) b = true) : Mn (P_leastRingBy f (nI a) (nI b)) (RBy f a b) := by
  rcases ringBy_spec g ha hab with ⟨h, _⟩ | ⟨l, a1, a2, a3, _, _⟩
  · exact Or.inl ⟨h, fun l q => by have := q.2.2; rw [h] at this; exact nI_nem1 (by have := q.2.1; omega) this.symm⟩
  · refine Or.inr ⟨l, a1, a2, a3, ⟨a1, a2, a3⟩, fun l' q => ?_⟩
    have := q.2.2
    rw [a3] at this
    have := nI_inj (by omega) (by have := q.2.1; omega) this
    omega
set_option maxRecDepth 16384 in
theorem isNear_tb {f : Nat → Int32} {a b : Nat} (ha : a < 16) (hb : b < 31) : P_isNear f (nI a) (nI b) = if tb (f a) b then 1 else 0 := by
  rw [P_isNear, nearOf_nI ha, holds_tb hb]
set_option maxRecDepth 16384 in
theorem L_ringAt {K : Nat} {f : Nat → Int32} (g : Gd K f) {a : Nat} (ha : a < 16) : ∀ (n o : Nat) (least : Int32), n + o = K → Mn least (fun l => ∃ b, b < o ∧ tb (f a) b = true ∧ RBy f a b l) →
    Mn (L_leastRingAt_4 K f (nI a) (fun least => least) n o least) (fun l => ∃ b, b < K ∧ tb (f a) b = true ∧ RBy f a b l)
  | 0, o, least, h, m => by
    have : o = K := by omega
    subst this
    exact m
  | n + 1, o, least, h, m => by
    have hK := g.1
    rw [L_leastRingAt_4, isNear_tb ha (by omega)]
    cases e : tb (f a) o with
    | false =>
      rw [if_pos (by rfl)]
      refine L_ringAt g ha n (o + 1) least (by omega) (m.iff (fun l => ⟨fun ⟨b, b1, b2⟩ => ⟨b, by omega, b2⟩, fun ⟨b, b1, b2⟩ => ⟨b, ?_, b2⟩⟩))
      rcases Nat.lt_or_ge b o with z | z
      · exact z
      · have : b = o := by omega
        rw [this, e] at b2
        cases b2.1
    | true =>
      rw [if_neg (by decide)]
      simp only [bd]
      refine L_ringAt g ha n (o + 1) _ (by omega) ((m.lesser (RBy_mn g ha e)).iff (fun l => ⟨fun q => ?_, fun ⟨b, b1, b2, b3⟩ => ?_⟩))
      · rcases q with ⟨b, b1, b2⟩ | q
        · exact ⟨b, by omega, b2⟩
        · exact ⟨o, by omega, e, q⟩
      · rcases Nat.lt_or_ge b o with z | z
        · exact Or.inl ⟨b, z, b2, b3⟩
        · have : b = o := by omega
          subst this
          exact Or.inr b3
set_option maxRecDepth 16384 in
theorem ringAt_mn {K : Nat} {f : Nat → Int32} (g : Gd K f) {a : Nat} (ha : a < 16) : Mn (P_leastRingAt K f (nI a)) (fun l => ∃ b, b < K ∧ tb (f a) b = true ∧ RBy f a b l) := by
  rw [P_leastRingAt]
  exact L_ringAt g ha K 0 (-1) rfl (Or.inl ⟨rfl, fun l ⟨b, b1, _⟩ => by omega⟩)
set_option maxRecDepth 16384 in
theorem L_ring {K : Nat} {f : Nat → Int32} (g : Gd K f) : ∀ (n i : Nat) (least : Int32), n + i = K → Mn least (fun l => ∃ a b, a < i ∧ b < K ∧ tb (f a) b = true ∧ RBy f a b l) →
    Mn (L_leastRing_4 K f (fun least => least) n i least) (fun l => ∃ a b, a < K ∧ b < K ∧ tb (f a) b = true ∧ RBy f a b l)
  | 0, i, least, h, m => by
    have : i = K := by omega
    subst this
    exact m
  | n + 1, i, least, h, m => by
    have hK := g.1
    rw [L_leastRing_4]
    simp only [bd]
    refine L_ring g n (i + 1) _ (by omega) ((m.lesser (ringAt_mn g (a := i) (by omega))).iff (fun l => ⟨fun q => ?_, fun ⟨a, b, b1, b2, b3, b4⟩ => ?_⟩))
    · rcases q with ⟨a, b, b1, b2⟩ | ⟨b, b1, b2⟩
      · exact ⟨a, b, by omega, b2⟩
      · exact ⟨i, b, by omega, b1, b2⟩
    · rcases Nat.lt_or_ge a i with z | z
      · exact Or.inl ⟨a, b, z, b2, b3, b4⟩
      · have : a = i := by omega
        subst this
        exact Or.inr ⟨b, b2, b3, b4⟩
set_option maxRecDepth 16384 in
theorem ring_mn {K : Nat} {f : Nat → Int32} (g : Gd K f) : Mn (P_leastRing K f) (fun l => ∃ a b, a < K ∧ b < K ∧ tb (f a) b = true ∧ RBy f a b l) := by
  rw [P_leastRing]
  exact L_ring g K 0 (-1) rfl (Or.inl ⟨rfl, fun l ⟨a, b, b1, _⟩ => by omega⟩)
-- the least ring's length: NONE, or a ring's, and no ring's is less
set_option maxRecDepth 16384 in
def Girth (f : Nat → Int32) (r : Int32) : Prop := (r = -1 ∧ ∀ m w, m ≤ 16 → ¬ Cyc f m w) ∨ ∃ l, 3 ≤ l ∧ l ≤ 16 ∧ r = nI l ∧ (∃ w, Cyc f l w) ∧ ∀ m w, m ≤ 16 → Cyc f m w → l ≤ m
set_option maxRecDepth 16384 in
theorem Cyc.by {K : Nat} {f : Nat → Int32} (g : Gd K f) {m : Nat} {w : Nat → Nat} (hm : m ≤ 16) (c : Cyc f m w) : ∃ l, l ≤ m ∧ ∃ a b, a < K ∧ b < K ∧ tb (f a) b = true ∧ RBy f a b l := by
  obtain ⟨c1, c2, c3, c4⟩ := c
  have e1 : tb (f (w (m - 1))) (w 0) = true := by
    have := (c3 (m - 1)).2
    rw [show m - 1 + 1 = 0 + m from by omega, c2] at this
    exact this
  have e2 := g.sym (c3 (m - 1)).1 e1
  have hlt := g.2.1 _ _ (c3 0).1 e2
  have way : Way f (w 0) (w (m - 1)) (m - 1) w := by
    refine ⟨rfl, fun e => ?_, rfl, fun i hi => c3 i, fun i i1 i2 e => ?_⟩
    · have := c4 _ _ e
      rw [Nat.mod_eq_of_lt (by omega), Nat.mod_eq_of_lt (by omega)] at this
      omega
    · have := c4 _ _ e
      rw [Nat.mod_eq_of_lt (by omega), Nat.mod_eq_of_lt (by omega)] at this
      omega
  rcases ringBy_spec g (c3 0).1 e2 with ⟨_, h⟩ | ⟨l, a1, a2, a3, _, h⟩
  · exact absurd (h _ _ way (by omega)) id
  · exact ⟨l, by have := h _ _ way (by omega); omega, w 0, w (m - 1), hlt.1, hlt.2, e2, a1, a2, a3⟩
set_option maxRecDepth 16384 in
theorem girth {K : Nat} {f : Nat → Int32} (g : Gd K f) : Girth f (P_leastRing K f) := by
  rcases ring_mn g with ⟨h, h2⟩ | ⟨l, a1, a2, a3, ⟨a, b, b1, b2, b3, b4⟩, a5⟩
  · exact Or.inl ⟨h, fun m w hm c => by
      obtain ⟨l, _, q⟩ := c.by g hm
      exact h2 l q⟩
  · refine Or.inr ⟨l, a1, a2, a3, ?_, fun m w hm c => ?_⟩
    · have hK := g.1
      rcases ringBy_spec g (a := a) (by omega) b3 with ⟨h, _⟩ | ⟨l', c1, c2, c3, c4, _⟩
      · have := b4.2.2
        rw [h] at this
        exact absurd this.symm (nI_nem1 (by omega))
      · have := b4.2.2
        rw [c3] at this
        have := nI_inj (by omega) (by omega) this
        subst this
        exact c4
    · obtain ⟨l', h1, q⟩ := c.by g hm
      have := a5 l' q
      omega
-- no ring shorter than L
set_option maxRecDepth 16384 in
def NoRing (f : Nat → Int32) (L : Nat) : Prop := ∀ m w, m < L → ¬ Cyc f m w
set_option maxRecDepth 16384 in
theorem NoRing.way {K : Nat} {f : Nat → Int32} (g : Gd K f) {L : Nat} (h : NoRing f L) {a b d : Nat} {p : Nat → Nat} (ha : a < 16) (hab : tb (f a) b = true) (w : Way f a b d p) (hd : d + 1 < L) (hL : L ≤ 17) : False := by
  rcases ringBy_spec g ha hab with ⟨_, h2⟩ | ⟨l, a1, a2, a3, ⟨w', a4⟩, a5⟩
  · exact h2 d p w (by omega)
  · have := a5 d p w (by omega)
    exact h l w' (by omega) a4
set_option maxRecDepth 16384 in
theorem girth_noring {K L : Nat} {f : Nat → Int32} (g : Gd K f) (hL : L ≤ 17) (h : P_leastRing K f = -1 ∨ ∃ l, L ≤ l ∧ l < 2 ^ 31 ∧ P_leastRing K f = nI l) : NoRing f L := by
  intro m w hm c
  rcases girth g with ⟨_, h2⟩ | ⟨l, a1, a2, a3, a4, a5⟩
  · exact h2 m w (by omega) c
  · have := a5 m w (by omega) c
    rcases h with e | ⟨l', b1, b2, b3⟩
    · rw [e] at a3; exact nI_nem1 (by omega) a3.symm
    · rw [b3] at a3
      have := nI_inj b2 (by omega) a3
      omega
set_option maxRecDepth 16384 in
theorem noring_girth {K L : Nat} {f : Nat → Int32} (g : Gd K f) (h : NoRing f L) : P_leastRing K f = -1 ∨ ∃ l, 3 ≤ l ∧ L ≤ l ∧ l ≤ 16 ∧ P_leastRing K f = nI l := by
  rcases girth g with ⟨h1, _⟩ | ⟨l, a1, a2, a3, ⟨w, a4⟩, a5⟩
  · exact Or.inl h1
  · refine Or.inr ⟨l, a1, ?_, a2, a3⟩
    rcases Nat.lt_or_ge l L with q | q
    · exact absurd a4 (h l w q)
    · exact q
