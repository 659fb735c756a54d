/-! going around -/
set_option maxRecDepth 16384 in
def Rows (f : Nat → Int32) : Prop := ∀ i, i < 16 → Sml (f i)
set_option maxRecDepth 16384 in
theorem nearOf_nI {f : Nat → Int32} {i : Nat} (h : i < 16) : P_nearOf f (nI i) = f i := by
  rw [P_nearOf, if_neg (nI_pos (by omega)), if_neg (show ¬ (16 : Int32) ≤ nI i from nI_ge (a := i) (b := 16) h (by omega)), nI_clamp (by omega)]
set_option maxRecDepth 16384 in
theorem Sml.eq0 {s : Int32} (h : Sml s) (h0 : ∀ k, k < 16 → tb s k = false) : s = 0 :=
  tb_ext (fun k _ => by
    rw [tb_zero]
    rcases Nat.lt_or_ge k 16 with q | q
    · exact h0 k q
    · exact h k q)
set_option maxRecDepth 16384 in
theorem sz_zero {s : Int32} (h : Sml s) (h0 : sz s = 0) : s = 0 :=
  h.eq0 (fun k hk => by
    cases e : tb s k with
    | false => rfl
    | true =>
      have := cn_pos hk e
      rw [sz] at h0
      omega)
set_option maxRecDepth 16384 in
theorem L_around_spec {f : Nat → Int32} (hf : Rows f) {set : Int32} {k : Int32 → Int32 → Int32} : ∀ (n i : Nat) (all left : Int32), Sml all → Sml left → sz left ≤ n →
    ∃ A, L_around_7 f set k n i all left = k A 0 ∧ Sml A ∧ ∀ j, tb A j = true ↔ (tb all j = true ∨ ∃ m, m < 16 ∧ tb left m = true ∧ tb (f m) j = true)
  | 0, i, all, left, ha, hl, hn => by
    have e := sz_zero hl (by omega)
    subst e
    exact ⟨all, rfl, ha, fun j => ⟨Or.inl, fun h => h.elim id (fun ⟨m, _, h, _⟩ => by rw [tb_zero] at h; cases h)⟩⟩
  | n + 1, i, all, left, ha, hl, hn => by
    rw [L_around_7]
    split
    · rename_i e
      subst e
      exact ⟨all, rfl, ha, fun j => ⟨Or.inl, fun h => h.elim id (fun ⟨m, _, h, _⟩ => by rw [tb_zero] at h; cases h)⟩⟩
    · rename_i e
      obtain ⟨m, hm, h1, h2, h3, h4⟩ := first_of hl e
      simp only [bd]
      rw [h2, nearOf_nI hm]
      have hs : sz (left &&& (left - 1)) ≤ n := by
        have a : sz left = sz (left &&& (left - 1)) + 1 := by
          rw [sz, cn_one hm h1, sz]
          congr 1
          exact cn_ext (fun k _ => (h4 k).symm)
        omega
      obtain ⟨A, e1, e2, e3⟩ := L_around_spec hf (set := set) (k := k) n (i + 1) (all ||| f m) (left &&& (left - 1)) (ha.or (hf m hm)) h3 hs
      refine ⟨A, e1, e2, fun j => (e3 j).trans ?_⟩
      rw [tb_or, Bool.or_eq_true]
      constructor
      · rintro ((q | q) | ⟨m2, a, b, c⟩)
        · exact Or.inl q
        · exact Or.inr ⟨m, hm, h1, q⟩
        · rw [h4, Bool.and_eq_true] at b
          exact Or.inr ⟨m2, a, b.1, c⟩
      · rintro (q | ⟨m2, a, b, c⟩)
        · exact Or.inl (Or.inl q)
        · rcases Nat.decEq m2 m with z | z
          · exact Or.inr ⟨m2, a, by rw [h4, b]; simp [z], c⟩
          · subst z; exact Or.inl (Or.inr c)
set_option maxRecDepth 16384 in
theorem around_spec {f : Nat → Int32} (hf : Rows f) {s : Int32} (hs : Sml s) : Sml (P_around f s) ∧ ∀ j, tb (P_around f s) j = true ↔ ∃ m, m < 16 ∧ tb s m = true ∧ tb (f m) j = true := by
  obtain ⟨A, e1, e2, e3⟩ := L_around_spec hf (set := s) (k := fun all left => all) 16 0 0 s Sml.zero hs (sz_le s)
  rw [P_around, e1]
  refine ⟨e2, fun j => (e3 j).trans ⟨fun h => h.elim (fun q => by rw [tb_zero] at q; cases q) id, Or.inr⟩⟩
-- what is reached by so many edges at most
set_option maxRecDepth 16384 in
def ball (f : Nat → Int32) (v : Nat) : Nat → Nat → Prop
  | 0, j => j = v
  | t + 1, j => ball f v t j ∨ ∃ m, m < 16 ∧ ball f v t m ∧ tb (f m) j = true
set_option maxRecDepth 16384 in
theorem ball_closed {f : Nat → Int32} {v t : Nat} (h : ∀ m, m < 16 → ball f v t m → ∀ j, tb (f m) j = true → ball f v t j) : ∀ n j, ball f v (t + n) j ↔ ball f v t j
  | 0, j => Iff.rfl
  | n + 1, j => by
    have ih := ball_closed h n
    show ball f v (t + n) j ∨ _ ↔ _
    refine ⟨fun q => q.elim (ih j).mp (fun ⟨m, hm, a, b⟩ => h m hm ((ih m).mp a) j b), fun q => Or.inl ((ih j).mpr q)⟩
set_option maxRecDepth 16384 in
theorem L_within_spec {f : Nat → Int32} (hf : Rows f) {v : Nat} {knot edges : Int32} : ∀ (n i : Nat) (seen brink : Int32) (t : Nat), Sml seen → Sml brink →
    (∀ j, tb seen j = true ↔ ball f v t j) → (∀ j, tb brink j = true → ball f v t j) → (∀ m, m < 16 → ball f v t m → tb brink m = false → ∀ j, tb (f m) j = true → ball f v t j) →
    Sml (L_within_11 f knot edges (fun seen brink => seen) n i seen brink) ∧ ∀ j, tb (L_within_11 f knot edges (fun seen brink => seen) n i seen brink) j = true ↔ ball f v (t + n) j
  | 0, i, seen, brink, t, s1, s2, h1, h2, h3 => ⟨s1, h1⟩
  | n + 1, i, seen, brink, t, s1, s2, h1, h2, h3 => by
    rw [L_within_11]
    split
    · rename_i e
      refine ⟨s1, fun j => (h1 j).trans (ball_closed (fun m hm q => h3 m hm q (by rw [e, tb_zero])) (n + 1) j).symm⟩
    · simp only [bd]
      obtain ⟨a1, a2⟩ := around_spec hf s2
      have hb : ∀ j, tb (P_around f brink &&& (seen ^^^ -1)) j = true ↔ (tb (P_around f brink) j = true ∧ tb seen j = false) := by
        intro j
        rw [tb_and, tb_not]
        constructor
        · intro q
          simp at q
          exact ⟨q.1, q.2.2⟩
        · rintro ⟨q1, q2⟩
          rw [q1, q2]
          simp [tb_lt q1]
      have hs : ∀ j, tb (seen ||| (P_around f brink &&& (seen ^^^ -1))) j = true ↔ ball f v (t + 1) j := by
        intro j
        rw [tb_or, Bool.or_eq_true, hb, h1]
        constructor
        · rintro (q | ⟨q, _⟩)
          · exact Or.inl q
          · obtain ⟨m, hm, b, c⟩ := (a2 j).mp q
            exact Or.inr ⟨m, hm, h2 m b, c⟩
        · rintro (q | ⟨m, hm, q, c⟩)
          · exact Or.inl q
          · cases z : tb brink m with
            | false => exact Or.inl (h3 m hm q z j c)
            | true =>
              cases y : tb seen j with
              | true => exact Or.inl ((h1 j).mp y)
              | false => exact Or.inr ⟨(a2 j).mpr ⟨m, hm, z, c⟩, rfl⟩
      have r := L_within_spec hf (v := v) (knot := knot) (edges := edges) n (i + 1) (seen ||| (P_around f brink &&& (seen ^^^ -1))) (P_around f brink &&& (seen ^^^ -1)) (t + 1) (s1.or a1.and) a1.and hs
        (fun j q => (hs j).mp (by rw [tb_or, q, Bool.or_true]))
        (fun m hm q1 q2 j c => by
          rcases q1 with q | ⟨m2, hm2, q, c2⟩
          · exact Or.inr ⟨m, hm, q, c⟩
          · rcases Bool.eq_false_or_eq_true (tb seen m) with y | y
            · exact Or.inr ⟨m, hm, (h1 m).mp y, c⟩
            · exfalso
              cases z : tb brink m2 with
              | false =>
                have := h3 m2 hm2 q z m c2
                rw [← h1, y] at this
                cases this
              | true =>
                have := (hb m).mpr ⟨(a2 m).mpr ⟨m2, hm2, z, c2⟩, y⟩
                rw [q2] at this
                cases this)
      refine ⟨r.1, fun j => ?_⟩
      rw [show t + (n + 1) = t + 1 + n from by omega]
      exact r.2 j
set_option maxRecDepth 16384 in
theorem within_spec {f : Nat → Int32} (hf : Rows f) {v : Nat} (hv : v < 16) (e : Int32) : Sml (P_within f (nI v) e) ∧ ∀ j, tb (P_within f (nI v) e) j = true ↔ ball f v e.toNatClampNeg j := by
  have hb : ∀ j, tb (P_bit (nI v)) j = true ↔ ball f v 0 j := fun j => by
    rw [tb_bit (by omega)]
    show (j == v) = true ↔ j = v
    exact beq_iff_eq
  have r := L_within_spec hf (v := v) (knot := nI v) (edges := e) e.toNatClampNeg 0 (P_bit (nI v)) (P_bit (nI v)) 0 (Sml.bit hv) (Sml.bit hv) hb (fun j => (hb j).mp)
    (fun m hm q1 q2 j c => by rw [(hb m).mpr q1] at q2; cases q2)
  rw [Nat.zero_add] at r
  exact r
set_option maxRecDepth 16384 in
theorem path_ext (p : Nat → Nat) (d j : Nat) : ∃ q : Nat → Nat, q (d + 1) = j ∧ ∀ i, i ≤ d → q i = p i :=
  ⟨fun i => if i = d + 1 then j else p i, if_pos rfl, fun i hi => if_neg (by omega)⟩
-- a ball's knots are the ends of walks that come back to nothing
set_option maxRecDepth 16384 in
theorem ball_walk {f : Nat → Int32} {v : Nat} : ∀ (t j : Nat), ball f v t j → ∃ (d : Nat) (p : Nat → Nat), d ≤ t ∧ p 0 = v ∧ p d = j ∧ (∀ i, i < d → p i < 16 ∧ tb (f (p i)) (p (i + 1)) = true) ∧ ∀ a b, a < b → b ≤ d → p a ≠ p b
  | 0, j, h => ⟨0, fun _ => v, Nat.le_refl _, rfl, h.symm, fun i q => by omega, fun a b q1 q2 => by omega⟩
  | t + 1, j, h => by
    rcases Classical.em (ball f v t j) with q | q
    · obtain ⟨d, p, a, b⟩ := ball_walk t j q
      exact ⟨d, p, by omega, b⟩
    · rcases h with z | ⟨m, hm, hb, hc⟩
      · exact absurd z q
      · obtain ⟨d, p, a, b, c, e, g⟩ := ball_walk t m hb
        have hball : ∀ i, i ≤ d → ball f v i (p i) := by
          intro i
          induction i with
          | zero => intro _; exact b
          | succ i ih => intro hi; exact Or.inr ⟨p i, (e i (by omega)).1, ih (by omega), (e i (by omega)).2⟩
        have hmono : ∀ n i x, ball f v i x → ball f v (i + n) x := by
          intro n
          induction n with
          | zero => intro i x h; exact h
          | succ n ih => intro i x h; exact Or.inl (ih i x h)
        obtain ⟨p', e1, e2⟩ := path_ext p d j
        refine ⟨d + 1, p', by omega, by rw [e2 0 (by omega)]; exact b, e1, fun i hi => ?_, fun x y hxy hy => ?_⟩
        · rw [e2 i (by omega)]
          rcases Nat.lt_or_ge i d with z | z
          · rw [e2 (i + 1) (by omega)]; exact e i z
          · have : i = d := by omega
            subst this
            rw [e1, c]
            exact ⟨hm, hc⟩
        · rw [e2 x (by omega)]
          rcases Nat.lt_or_ge y (d + 1) with z | z
          · rw [e2 y (by omega)]; exact g x y hxy (by omega)
          · rw [show y = d + 1 from by omega, e1]
            intro eq
            apply q
            have := hmono (t - x) x (p x) (hball x (by omega))
            rw [show x + (t - x) = t from by omega, eq] at this
            exact this
