/-! sums -/
set_option maxRecDepth 16384 in
def sm (g : Nat → Nat) : Nat → Nat
  | 0 => 0
  | n + 1 => sm g n + g n
set_option maxRecDepth 16384 in
theorem sm_ext {g h : Nat → Nat} : ∀ {n : Nat}, (∀ k, k < n → g k = h k) → sm g n = sm h n
  | 0, _ => rfl
  | n + 1, e => by rw [sm, sm, sm_ext (fun k hk => e k (by omega)), e n (by omega)]
set_option maxRecDepth 16384 in
theorem sm_le {g h : Nat → Nat} : ∀ {n : Nat}, (∀ k, k < n → g k ≤ h k) → sm g n ≤ sm h n
  | 0, _ => Nat.le_refl _
  | n + 1, e => by
    have a := sm_le (g := g) (h := h) (n := n) (fun k hk => e k (by omega))
    have b := e n (by omega)
    rw [sm, sm]
    omega
set_option maxRecDepth 16384 in
theorem sm_add (g h : Nat → Nat) : ∀ n : Nat, sm (fun k => g k + h k) n = sm g n + sm h n
  | 0 => rfl
  | n + 1 => by
    rw [sm, sm_add g h n, sm, sm]
    omega
set_option maxRecDepth 16384 in
theorem sm_zero : ∀ n : Nat, sm (fun _ => 0) n = 0
  | 0 => rfl
  | n + 1 => by rw [sm, sm_zero n]
set_option maxRecDepth 16384 in
theorem sm_swap (g : Nat → Nat → Nat) (m : Nat) : ∀ n : Nat, sm (fun u => sm (g u) m) n = sm (fun w => sm (fun u => g u w) n) m
  | 0 => (sm_zero m).symm
  | n + 1 => by
    rw [sm, sm_swap g m n, ← sm_add]
    exact sm_ext (fun k _ => rfl)
set_option maxRecDepth 16384 in
theorem cn_sm (p : Nat → Bool) : ∀ n : Nat, cn p n = sm (fun k => if p k then 1 else 0) n
  | 0 => rfl
  | n + 1 => by rw [cn, sm, cn_sm p n]
set_option maxRecDepth 16384 in
theorem sm_mul (q : Nat) (p : Nat → Bool) : ∀ n : Nat, sm (fun k => if p k then q else 0) n = q * cn p n
  | 0 => rfl
  | n + 1 => by
    rw [sm, cn, sm_mul q p n]
    split
    · rw [Nat.mul_add, Nat.mul_one]
    · rfl
set_option maxRecDepth 16384 in
theorem cn_le_one {p : Nat → Bool} {n : Nat} (h : ∀ x y, x < n → y < n → p x = true → p y = true → x = y) : cn p n ≤ 1 := by
  rcases Nat.eq_zero_or_pos (cn p n) with q | q
  · omega
  · obtain ⟨k, hk, hp⟩ := cn_ex q
    rw [cn_one hk hp, cn_zero (fun j hj => ?_)]
    · omega
    · cases e : p j with
      | false => rfl
      | true =>
        have := h j k hj hk e hp
        simp [this]
-- each of A has q or more near ones in B, and each of B one at most in A
set_option maxRecDepth 16384 in
theorem cn_grow {R : Nat → Nat → Bool} {A B : Nat → Bool} {q n : Nat} (h1 : ∀ u, u < n → A u = true → q ≤ cn (fun w => R u w && B w) n) (h2 : ∀ w, w < n → B w = true → cn (fun u => A u && R u w) n ≤ 1) : q * cn A n ≤ cn B n := by
  have e1 : q * cn A n ≤ sm (fun u => sm (fun w => if A u && R u w && B w then 1 else 0) n) n := by
    rw [← sm_mul]
    refine sm_le (fun u hu => ?_)
    rw [← cn_sm (fun w => A u && R u w && B w)]
    cases e : A u with
    | false => simp
    | true =>
      simp only [if_true, Bool.true_and]
      exact h1 u hu e
  rw [sm_swap] at e1
  refine Nat.le_trans e1 ?_
  rw [cn_sm B]
  refine sm_le (fun w hw => ?_)
  rw [← cn_sm (fun u => A u && R u w && B w)]
  cases e : B w with
  | false => rw [cn_zero (fun k _ => by simp)]; simp
  | true =>
    simp only [Bool.and_true, if_true]
    exact h2 w hw e
/-! levels around a root -/
set_option maxRecDepth 16384 in
def anyN (p : Nat → Bool) : Nat → Bool
  | 0 => false
  | n + 1 => anyN p n || p n
set_option maxRecDepth 16384 in
theorem anyN_iff {p : Nat → Bool} : ∀ {n : Nat}, anyN p n = true ↔ ∃ k, k < n ∧ p k = true
  | 0 => ⟨fun h => (by cases h), fun ⟨k, h, _⟩ => by omega⟩
  | n + 1 => by
    rw [anyN, Bool.or_eq_true, anyN_iff]
    constructor
    · rintro (⟨k, a, b⟩ | h)
      · exact ⟨k, by omega, b⟩
      · exact ⟨n, by omega, h⟩
    · rintro ⟨k, a, b⟩
      rcases Nat.lt_or_ge k n with z | z
      · exact Or.inl ⟨k, z, b⟩
      · have : k = n := by omega
        subst this
        exact Or.inr b
set_option maxRecDepth 16384 in
def Bl (f : Nat → Int32) (T : Nat → Bool) : Nat → Nat → Bool
  | 0, j => T j
  | t + 1, j => Bl f T t j || anyN (fun m => Bl f T t m && tb (f m) j) 16
set_option maxRecDepth 16384 in
theorem Bl_succ {f : Nat → Int32} {T : Nat → Bool} {t j : Nat} : Bl f T (t + 1) j = true ↔ (Bl f T t j = true ∨ ∃ m, m < 16 ∧ Bl f T t m = true ∧ tb (f m) j = true) := by
  rw [Bl, Bool.or_eq_true, anyN_iff]
  constructor
  · rintro (h | ⟨m, a, b⟩)
    · exact Or.inl h
    · rw [Bool.and_eq_true] at b; exact Or.inr ⟨m, a, b⟩
  · rintro (h | ⟨m, a, b⟩)
    · exact Or.inl h
    · exact Or.inr ⟨m, a, by rw [Bool.and_eq_true]; exact b⟩
set_option maxRecDepth 16384 in
def lev (f : Nat → Int32) (T : Nat → Bool) : Nat → Nat → Bool
  | 0, j => T j
  | t + 1, j => Bl f T (t + 1) j && !Bl f T t j
set_option maxRecDepth 16384 in
theorem lev_succ {f : Nat → Int32} {T : Nat → Bool} {t j : Nat} : lev f T (t + 1) j = true ↔ (Bl f T (t + 1) j = true ∧ Bl f T t j = false) := by
  rw [lev, Bool.and_eq_true, Bool.not_eq_true']
set_option maxRecDepth 16384 in
theorem lev_Bl {f : Nat → Int32} {T : Nat → Bool} : ∀ {t j : Nat}, lev f T t j = true → Bl f T t j = true
  | 0, j, h => h
  | t + 1, j, h => (lev_succ.mp h).1
set_option maxRecDepth 16384 in
theorem lev_parent {f : Nat → Int32} {T : Nat → Bool} : ∀ {t j : Nat}, lev f T (t + 1) j = true → ∃ m, m < 16 ∧ lev f T t m = true ∧ tb (f m) j = true
  | 0, j, h => by
    obtain ⟨h1, h2⟩ := lev_succ.mp h
    rcases Bl_succ.mp h1 with q | ⟨m, a, b, c⟩
    · rw [q] at h2; cases h2
    · exact ⟨m, a, b, c⟩
  | t + 1, j, h => by
    obtain ⟨h1, h2⟩ := lev_succ.mp h
    rcases Bl_succ.mp h1 with q | ⟨m, a, b, c⟩
    · rw [q] at h2; cases h2
    · refine ⟨m, a, lev_succ.mpr ⟨b, ?_⟩, c⟩
      cases e : Bl f T t m with
      | false => rfl
      | true =>
        have := Bl_succ.mpr (Or.inr ⟨m, a, e, c⟩)
        rw [this] at h2; cases h2
set_option maxRecDepth 16384 in
theorem cn_Bl (f : Nat → Int32) (T : Nat → Bool) (t : Nat) : cn (Bl f T (t + 1)) 16 = cn (Bl f T t) 16 + cn (lev f T (t + 1)) 16 := by
  rw [← cn_split (Bl f T (t + 1)) (Bl f T t)]
  congr 1
  refine cn_ext (fun k _ => ?_)
  cases e : Bl f T t k with
  | false => rw [Bool.and_false]
  | true => rw [Bl_succ.mpr (Or.inl e)]; rfl
/-! walks that keep off a knot -/
set_option maxRecDepth 16384 in
def Wk (f : Nat → Int32) (u n s e : Nat) : Prop := ∃ p : Nat → Nat, p 0 = s ∧ p n = e ∧ (∀ i, i < n → p i < 16 ∧ tb (f (p i)) (p (i + 1)) = true) ∧ ∀ i, i ≤ n → p i ≠ u
set_option maxRecDepth 16384 in
theorem Wk.refl {f : Nat → Int32} {u s : Nat} (h : s ≠ u) : Wk f u 0 s s := ⟨fun _ => s, rfl, rfl, fun i q => by omega, fun i q => h⟩
set_option maxRecDepth 16384 in
theorem Wk.snoc {f : Nat → Int32} {u n s e e' : Nat} (h : Wk f u n s e) (he : e < 16) (ha : tb (f e) e' = true) (hu : e' ≠ u) : Wk f u (n + 1) s e' := by
  obtain ⟨p, a, b, c, d⟩ := h
  obtain ⟨q, q1, q2⟩ := path_ext p n e'
  refine ⟨q, by rw [q2 0 (by omega)]; exact a, q1, fun i hi => ?_, fun i hi => ?_⟩
  · rw [q2 i (by omega)]
    rcases Nat.lt_or_ge i n with z | z
    · rw [q2 (i + 1) (by omega)]; exact c i z
    · have : i = n := by omega
      subst this
      rw [q1, b]; exact ⟨he, ha⟩
  · rcases Nat.lt_or_ge i (n + 1) with z | z
    · rw [q2 i (by omega)]; exact d i (by omega)
    · rw [show i = n + 1 from by omega, q1]; exact hu
set_option maxRecDepth 16384 in
theorem Wk.trans {f : Nat → Int32} {u s e : Nat} {n : Nat} (h : Wk f u n s e) : ∀ {m e' : Nat}, Wk f u m e e' → Wk f u (n + m) s e'
  | 0, e', g => by
    obtain ⟨p, a, b, _⟩ := g
    rw [← b, a]; exact h
  | m + 1, e', g => by
    obtain ⟨p, a, b, c, d⟩ := g
    have := Wk.trans h (m := m) (e' := p m) ⟨p, a, rfl, fun i hi => c i (by omega), fun i hi => d i (by omega)⟩
    have st := c m (by omega)
    rw [b] at st
    exact this.snoc st.1 st.2 (by rw [← b]; exact d _ (Nat.le_refl _))
set_option maxRecDepth 16384 in
theorem Wk.symm {K : Nat} {f : Nat → Int32} (g : Gd K f) {u n s e : Nat} (h : Wk f u n s e) : Wk f u n e s := by
  obtain ⟨p, a, b, c, d⟩ := h
  refine ⟨fun i => p (n - i), b, by show p (n - n) = s; rw [Nat.sub_self]; exact a, fun i hi => ?_, fun i hi => d _ (by omega)⟩
  have st := c (n - (i + 1)) (by omega)
  rw [show n - (i + 1) + 1 = n - i from by omega] at st
  exact ⟨g.lt st.1 st.2, g.sym st.1 st.2⟩
set_option maxRecDepth 16384 in
theorem Wk.way {K : Nat} {f : Nat → Int32} (g : Gd K f) {u a b n : Nat} (hu : u < 16) (hb : tb (f u) b = true) (hne : b ≠ a) (h : Wk f u n b a) : ∃ p, Way f u a (n + 1) p := by
  obtain ⟨p, x, y, z, w⟩ := h
  refine ⟨fun i => if i = 0 then u else p (i - 1), rfl, ?_, ?_, fun i hi => ?_, fun i i1 i2 => ?_⟩
  · show p 0 ≠ a
    rw [x]; exact hne
  · show p n = a
    exact y
  · rcases Nat.eq_zero_or_pos i with q | q
    · subst q
      show u < 16 ∧ tb (f u) (p 0) = true
      rw [x]; exact ⟨hu, hb⟩
    · obtain ⟨j, rfl⟩ : ∃ j, i = j + 1 := ⟨i - 1, by omega⟩
      show p j < 16 ∧ tb (f (p j)) (p (j + 1)) = true
      exact z j (by omega)
  · obtain ⟨j, rfl⟩ : ∃ j, i = j + 1 := ⟨i - 1, by omega⟩
    show p j ≠ u
    exact w j (by omega)
-- a root: one knot, or two near ones
set_option maxRecDepth 16384 in
def Root (f : Nat → Int32) (T : Nat → Bool) (de : Nat) : Prop := (∀ x, T x = true → x < 16) ∧ ∀ x y, T x = true → T y = true → x = y ∨ (1 ≤ de ∧ tb (f x) y = true)
set_option maxRecDepth 16384 in
theorem Bl_lt {K : Nat} {f : Nat → Int32} (g : Gd K f) {T : Nat → Bool} {de : Nat} (r : Root f T de) : ∀ {t j : Nat}, Bl f T t j = true → j < 16
  | 0, j, h => r.1 j h
  | t + 1, j, h => by
    rcases Bl_succ.mp h with q | ⟨m, a, b, c⟩
    · exact Bl_lt g r q
    · exact g.lt a c
set_option maxRecDepth 16384 in
theorem lev_down {K : Nat} {f : Nat → Int32} (g : Gd K f) {T : Nat → Bool} {u : Nat} : ∀ {t j : Nat}, lev f T t j = true → j ≠ u → (∀ s, s < t → Bl f T s u = false) → ∃ r, T r = true ∧ Wk f u t j r
  | 0, j, h, hu, _ => ⟨j, h, Wk.refl hu⟩
  | t + 1, j, h, hu, hb => by
    obtain ⟨m, a, b, c⟩ := lev_parent h
    have hm : m ≠ u := fun e => by
      subst e
      have := lev_Bl b
      rw [hb t (by omega)] at this; cases this
    obtain ⟨r, r1, r2⟩ := lev_down g b hm (fun s hs => hb s (by omega))
    refine ⟨r, r1, ?_⟩
    have e : Wk f u 1 j m := (Wk.refl hu).snoc (g.lt a c) (g.sym a c) hm
    have := e.trans r2
    rw [Nat.add_comm] at this
    exact this
set_option maxRecDepth 16384 in
theorem Bl_mono {f : Nat → Int32} {T : Nat → Bool} {u : Nat} {s : Nat} : ∀ n : Nat, Bl f T s u = true → Bl f T (s + n) u = true
  | 0, h => h
  | n + 1, h => Bl_succ.mpr (Or.inl (Bl_mono n h))
-- two near ones of a knot, one a level below, one there or on its own level: a short ring
set_option maxRecDepth 16384 in
theorem branch {K : Nat} {f : Nat → Int32} (g : Gd K f) {T : Nat → Bool} {de L : Nat} (r : Root f T de) (hn : NoRing f L) (hL : L ≤ 17) {t s u a b : Nat} (hu : lev f T (t + 1) u = true) (ha : lev f T t a = true) (hb : lev f T s b = true) (hs : s ≤ t + 1)
    (hab : a ≠ b) (ea : tb (f u) a = true) (eb : tb (f u) b = true) (hlen : s + t + de + 2 < L) : False := by
  have hu16 := Bl_lt g r (lev_Bl hu)
  have hno : ∀ s, s < t + 1 → Bl f T s u = false := fun s hs => by
    cases e : Bl f T s u with
    | false => rfl
    | true =>
      have := Bl_mono (t - s) e
      rw [show s + (t - s) = t from by omega, (lev_succ.mp hu).2] at this
      cases this
  obtain ⟨ra, a1, a2⟩ := lev_down g ha (g.ne hu16 ea).symm (fun s hs => hno s (by omega))
  obtain ⟨rb, b1, b2⟩ := lev_down g hb (g.ne hu16 eb).symm (fun s' hs' => hno s' (by omega))
  have hT : ra ≠ u := fun e => by
    subst e
    have := hno 0 (by omega)
    rw [show Bl f T 0 ra = T ra from rfl, a1] at this
    cases this
  have fin : ∀ n, n ≤ s + t + de → Wk f u n b a → False := fun n hn' w => by
    obtain ⟨p, hp⟩ := w.way g hu16 eb hab.symm
    exact hn.way g hu16 ea hp (by omega) hL
  rcases r.2 rb ra b1 a1 with e | ⟨e1, e2⟩
  · subst e
    exact fin _ (by omega) (b2.trans (a2.symm g))
  · have := (b2.snoc (r.1 rb b1) e2 hT).trans (a2.symm g)
    exact fin _ (by omega) this
-- the count of a knot
set_option maxRecDepth 16384 in
def dg (f : Nat → Int32) (v : Nat) : Nat := cn (tb (f v)) 16
set_option maxRecDepth 16384 in
theorem lev_grow {K : Nat} {f : Nat → Int32} (g : Gd K f) {T : Nat → Bool} {de L c t : Nat} (r : Root f T de) (hn : NoRing f L) (hL : L ≤ 17) (hlen : 2 * t + de + 4 < L) (he : ∀ u, u < K → dg f u = c) (hc : 1 ≤ c) : (c - 1) * cn (lev f T (t + 1)) 16 ≤ cn (lev f T (t + 2)) 16 := by
  refine cn_grow (R := fun u w => tb (f u) w) (fun u hu hl => ?_) (fun w hw hl => ?_)
  · obtain ⟨m, m1, m2, m3⟩ := lev_parent hl
    have hK := (g.2.1 m u m1 m3).2
    have m4 := g.sym m1 m3
    have := he u hK
    rw [dg, cn_one m1 m4] at this
    have h2 : cn (fun k => tb (f u) k && !(k == m)) 16 ≤ cn (fun w => tb (f u) w && lev f T (t + 2) w) 16 := by
      refine cn_le (fun k hk q => ?_)
      rw [Bool.and_eq_true] at q ⊢
      refine ⟨q.1, lev_succ.mpr ⟨Bl_succ.mpr (Or.inr ⟨u, hu, lev_Bl hl, q.1⟩), ?_⟩⟩
      have hkm : k ≠ m := fun e => by subst e; simp at q
      cases e : Bl f T (t + 1) k with
      | false => rfl
      | true =>
        exfalso
        cases e2 : lev f T (t + 1) k with
        | true => exact branch g r hn hL hl m2 e2 (by omega) hkm.symm m4 q.1 (by omega)
        | false =>
          have e3 : Bl f T t k = true := by
            cases e4 : Bl f T t k with
            | true => rfl
            | false => rw [lev_succ.mpr ⟨e, e4⟩] at e2; cases e2
          cases e5 : lev f T t k with
          | true => exact branch g r hn hL hl m2 e5 (by omega) hkm.symm m4 q.1 (by omega)
          | false =>
            cases t with
            | zero => exact absurd e3 (by rw [show Bl f T 0 k = lev f T 0 k from rfl, e5]; simp)
            | succ t =>
              have e6 : Bl f T t k = true := by
                cases e7 : Bl f T t k with
                | true => rfl
                | false => rw [lev_succ.mpr ⟨e3, e7⟩] at e5; cases e5
              have := Bl_succ.mpr (Or.inr ⟨k, hk, e6, g.sym hu q.1⟩)
              rw [(lev_succ.mp hl).2] at this
              cases this
    omega
  · refine cn_le_one (fun x y hx hy px py => ?_)
    rw [Bool.and_eq_true] at px py
    rcases Nat.decEq x y with z | z
    · exact (branch g r hn hL hl px.1 py.1 (by omega) z (g.sym hx px.2) (g.sym hy py.2) (by omega)).elim
    · exact z
set_option maxRecDepth 16384 in
theorem lev_one {K : Nat} {f : Nat → Int32} (g : Gd K f) {T : Nat → Bool} {de L c : Nat} (r : Root f T de) (hn : NoRing f L) (hL : L ≤ 17) (hlen : de + 2 < L) (hde : ∀ u, T u = true → cn (fun k => tb (f u) k && T k) 16 ≤ de) (he : ∀ u, u < K → dg f u = c) (hT : ∀ u, T u = true → u < K) : (c - de) * cn T 16 ≤ cn (lev f T 1) 16 := by
  refine cn_grow (R := fun u w => tb (f u) w) (fun u hu hl => ?_) (fun w hw hl => ?_)
  · have := he u (hT u hl)
    rw [dg, ← cn_split (tb (f u)) T] at this
    have h1 := hde u hl
    have h2 : cn (fun k => tb (f u) k && !T k) 16 ≤ cn (fun w => tb (f u) w && lev f T 1 w) 16 := by
      refine cn_le (fun k hk q => ?_)
      rw [Bool.and_eq_true, Bool.not_eq_true'] at q
      rw [Bool.and_eq_true]
      exact ⟨q.1, lev_succ.mpr ⟨Bl_succ.mpr (Or.inr ⟨u, hu, hl, q.1⟩), q.2⟩⟩
    omega
  · refine cn_le_one (fun x y hx hy px py => ?_)
    rw [Bool.and_eq_true] at px py
    rcases Nat.decEq x y with z | z
    · exact (branch g r hn hL hl (t := 0) (s := 0) px.1 py.1 (by omega) z (g.sym hx px.2) (g.sym hy py.2) (by omega)).elim
    · exact z
set_option maxRecDepth 16384 in
theorem cn_K {K : Nat} (hK : K ≤ 16) {p : Nat → Bool} (h : ∀ k, k < 16 → p k = true → k < K) : cn p 16 ≤ K := by
  have h1 : cn p 16 ≤ cn (fun k => decide (k < K)) 16 := cn_le (fun k hk q => by simp [h k hk q])
  have h2 : ∀ n, cn (fun k => decide (k < K)) n ≤ K := by
    intro n
    induction n with
    | zero => exact Nat.zero_le _
    | succ n ih =>
      rcases Nat.lt_or_ge n K with q | q
      · have := cn_top (fun k => decide (k < K)) (n + 1)
        omega
      · rw [cn, if_neg (by simp; omega)]
        exact ih
  exact Nat.le_trans h1 (h2 16)
