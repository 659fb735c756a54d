/-! the bound -/
set_option maxRecDepth 16384 in
def geo (q : Nat) : Nat → Nat
  | 0 => 0
  | n + 1 => geo q n + q ^ n
set_option maxRecDepth 16384 in
def bnd (c L : Nat) : Nat := if L % 2 = 1 then 1 + c * geo (c - 1) ((L - 1) / 2) else 2 * geo (c - 1) (L / 2)
set_option maxRecDepth 16384 in
theorem leastKnots_bnd : ∀ c, c < 6 → ∀ L, L < 9 → 2 ≤ c → 3 ≤ L → P_leastKnots (nI c) (nI L) = nI (bnd c L) := by decide +kernel
set_option maxRecDepth 16384 in
theorem Bl_K {K : Nat} {f : Nat → Int32} (g : Gd K f) {T : Nat → Bool} (hT : ∀ k, T k = true → k < K) : ∀ {t j : Nat}, Bl f T t j = true → j < K
  | 0, j, h => hT j h
  | t + 1, j, h => by
    rcases Bl_succ.mp h with q | ⟨m, a, b, c⟩
    · exact Bl_K g hT q
    · exact (g.2.1 m j a c).2
set_option maxRecDepth 16384 in
theorem moore_odd {K c L : Nat} {f : Nat → Int32} (g : Gd K f) (h0 : 0 < K) (he : ∀ u, u < K → dg f u = c) (hc : 2 ≤ c) (hc5 : c ≤ 5) (hL : 3 ≤ L) (hL8 : L ≤ 8) (hn : NoRing f L) (ho : L % 2 = 1) : bnd c L ≤ K := by
  obtain ⟨T, hTd⟩ : ∃ T : Nat → Bool, T = fun k => k == 0 := ⟨_, rfl⟩
  have hT : ∀ k, T k = true ↔ k = 0 := fun k => by rw [hTd]; exact beq_iff_eq
  have r : Root f T 0 := ⟨fun x h => by have := (hT x).mp h; omega, fun x y hx hy => Or.inl (by rw [(hT x).mp hx, (hT y).mp hy])⟩
  have hTK : ∀ k, T k = true → k < K := fun k h => by have := (hT k).mp h; omega
  have cT : cn T 16 = 1 := by
    rw [cn_one (i := 0) (by omega) ((hT 0).mpr rfl), cn_zero (fun k _ => ?_)]
    cases e : T k with
    | false => rfl
    | true => rw [(hT k).mp e]; rfl
  have l1 := lev_one (L := L) (c := c) g r hn (by omega) (by omega) (fun u hu => by
    rw [cn_zero (fun k _ => ?_)]
    · exact Nat.le_refl _
    · cases e : T k with
      | false => rw [Bool.and_false]
      | true => rw [(hT k).mp e, (hT u).mp hu, g.2.2.2 0 (by omega)]; rfl) he hTK
  rw [cT, Nat.sub_zero, Nat.mul_one] at l1
  have top : ∀ t, cn (Bl f T t) 16 ≤ K := fun t => cn_K g.1 (fun k _ h => Bl_K g hTK h)
  have b1 : cn (Bl f T 1) 16 = cn T 16 + cn (lev f T 1) 16 := cn_Bl f T 0
  rw [cT] at b1
  have t1 := top 1
  rcases (by omega : L = 3 ∨ L = 5 ∨ L = 7) with e | e | e
  · subst e
    show 1 + c * (0 + (c - 1) ^ 0) ≤ K
    rw [Nat.pow_zero, Nat.zero_add, Nat.mul_one]
    omega
  · subst e
    have l2 : (c - 1) * cn (lev f T 1) 16 ≤ cn (lev f T 2) 16 := lev_grow (t := 0) g r hn (by omega) (by omega) he (by omega)
    have b2 : cn (Bl f T 2) 16 = cn (Bl f T 1) 16 + cn (lev f T 2) 16 := cn_Bl f T 1
    have t2 := top 2
    show 1 + c * (0 + (c - 1) ^ 0 + (c - 1) ^ 1) ≤ K
    generalize cn (lev f T 1) 16 = x at *
    generalize cn (lev f T 2) 16 = y at *
    rcases (by omega : c = 2 ∨ c = 3 ∨ c = 4 ∨ c = 5) with e | e | e | e <;> subst e <;> simp only [Nat.reduceSub, Nat.reducePow, Nat.reduceAdd, Nat.reduceMul] at * <;> omega
  · subst e
    have l2 : (c - 1) * cn (lev f T 1) 16 ≤ cn (lev f T 2) 16 := lev_grow (t := 0) g r hn (by omega) (by omega) he (by omega)
    have l3 : (c - 1) * cn (lev f T 2) 16 ≤ cn (lev f T 3) 16 := lev_grow (t := 1) g r hn (by omega) (by omega) he (by omega)
    have b2 : cn (Bl f T 2) 16 = cn (Bl f T 1) 16 + cn (lev f T 2) 16 := cn_Bl f T 1
    have b3 : cn (Bl f T 3) 16 = cn (Bl f T 2) 16 + cn (lev f T 3) 16 := cn_Bl f T 2
    have t3 := top 3
    show 1 + c * (0 + (c - 1) ^ 0 + (c - 1) ^ 1 + (c - 1) ^ 2) ≤ K
    generalize cn (lev f T 1) 16 = x at *
    generalize cn (lev f T 2) 16 = y at *
    generalize cn (lev f T 3) 16 = z at *
    rcases (by omega : c = 2 ∨ c = 3 ∨ c = 4 ∨ c = 5) with e | e | e | e <;> subst e <;> simp only [Nat.reduceSub, Nat.reducePow, Nat.reduceAdd, Nat.reduceMul] at * <;> omega
set_option maxRecDepth 16384 in
theorem moore_even {K c L : Nat} {f : Nat → Int32} (g : Gd K f) (h0 : 0 < K) (he : ∀ u, u < K → dg f u = c) (hc : 2 ≤ c) (hc5 : c ≤ 5) (hL : 3 ≤ L) (hL8 : L ≤ 8) (hn : NoRing f L) (ho : L % 2 = 0) : bnd c L ≤ K := by
  obtain ⟨y, hy, hy0⟩ := cn_ex (p := tb (f 0)) (n := 16) (by have := he 0 h0; rw [dg] at this; omega)
  have hy1 := g.ne (i := 0) (by omega) hy0
  have hyK := (g.2.1 0 y (by omega) hy0).2
  obtain ⟨T, hTd⟩ : ∃ T : Nat → Bool, T = fun k => k == 0 || k == y := ⟨_, rfl⟩
  have hT : ∀ k, T k = true ↔ (k = 0 ∨ k = y) := fun k => by rw [hTd]; simp
  have r : Root f T 1 := ⟨fun x h => by rcases (hT x).mp h with e | e <;> omega, fun x z hx hz => by
    rcases (hT x).mp hx with e | e <;> rcases (hT z).mp hz with e2 | e2
    · exact Or.inl (by omega)
    · right; rw [e, e2]; exact ⟨Nat.le_refl _, hy0⟩
    · right; rw [e, e2]; exact ⟨Nat.le_refl _, g.sym (by omega) hy0⟩
    · exact Or.inl (by omega)⟩
  have hTK : ∀ k, T k = true → k < K := fun k h => by rcases (hT k).mp h with e | e <;> omega
  have cT : cn T 16 = 2 := by
    rw [cn_one (i := 0) (by omega) ((hT 0).mpr (Or.inl rfl)), cn_one (i := y) hy (by rw [(hT y).mpr (Or.inr rfl)]; simp; omega), cn_zero (fun k _ => ?_)]
    cases e : T k with
    | false => rfl
    | true => rcases (hT k).mp e with e | e <;> subst e <;> simp
  have l1 := lev_one (L := L) (c := c) g r hn (by omega) (by omega) (fun u hu => cn_le_one (fun a b ha hb pa pb => by
    rw [Bool.and_eq_true] at pa pb
    have ea := (hT a).mp pa.2
    have eb := (hT b).mp pb.2
    have ka := g.ne (Bl_lt g r (t := 0) hu) pa.1
    have kb := g.ne (Bl_lt g r (t := 0) hu) pb.1
    have eu := (hT u).mp hu
    omega)) he hTK
  rw [cT] at l1
  have top : ∀ t, cn (Bl f T t) 16 ≤ K := fun t => cn_K g.1 (fun k _ h => Bl_K g hTK h)
  have b1 : cn (Bl f T 1) 16 = cn T 16 + cn (lev f T 1) 16 := cn_Bl f T 0
  rw [cT] at b1
  have t1 := top 1
  rcases (by omega : L = 4 ∨ L = 6 ∨ L = 8) with e | e | e
  · subst e
    show 2 * (0 + (c - 1) ^ 0 + (c - 1) ^ 1) ≤ K
    rw [Nat.pow_zero, Nat.zero_add, Nat.pow_one]
    omega
  · subst e
    have l2 : (c - 1) * cn (lev f T 1) 16 ≤ cn (lev f T 2) 16 := lev_grow (t := 0) g r hn (by omega) (by omega) he (by omega)
    have b2 : cn (Bl f T 2) 16 = cn (Bl f T 1) 16 + cn (lev f T 2) 16 := cn_Bl f T 1
    have t2 := top 2
    show 2 * (0 + (c - 1) ^ 0 + (c - 1) ^ 1 + (c - 1) ^ 2) ≤ K
    generalize cn (lev f T 1) 16 = x at *
    generalize cn (lev f T 2) 16 = y at *
    rcases (by omega : c = 2 ∨ c = 3 ∨ c = 4 ∨ c = 5) with e | e | e | e <;> subst e <;> simp only [Nat.reduceSub, Nat.reducePow, Nat.reduceAdd, Nat.reduceMul] at * <;> omega
  · subst e
    have l2 : (c - 1) * cn (lev f T 1) 16 ≤ cn (lev f T 2) 16 := lev_grow (t := 0) g r hn (by omega) (by omega) he (by omega)
    have l3 : (c - 1) * cn (lev f T 2) 16 ≤ cn (lev f T 3) 16 := lev_grow (t := 1) g r hn (by omega) (by omega) he (by omega)
    have b2 : cn (Bl f T 2) 16 = cn (Bl f T 1) 16 + cn (lev f T 2) 16 := cn_Bl f T 1
    have b3 : cn (Bl f T 3) 16 = cn (Bl f T 2) 16 + cn (lev f T 3) 16 := cn_Bl f T 2
    have t3 := top 3
    show 2 * (0 + (c - 1) ^ 0 + (c - 1) ^ 1 + (c - 1) ^ 2 + (c - 1) ^ 3) ≤ K
    generalize cn (lev f T 1) 16 = x at *
    generalize cn (lev f T 2) 16 = y at *
    generalize cn (lev f T 3) 16 = z at *
    rcases (by omega : c = 2 ∨ c = 3 ∨ c = 4 ∨ c = 5) with e | e | e | e <;> subst e <;> simp only [Nat.reduceSub, Nat.reducePow, Nat.reduceAdd, Nat.reduceMul] at * <;> omega
set_option maxRecDepth 16384 in
theorem moore {K c L : Nat} {f : Nat → Int32} (g : Gd K f) (h0 : 0 < K) (he : ∀ u, u < K → dg f u = c) (hc : 2 ≤ c) (hc5 : c ≤ 5) (hL : 3 ≤ L) (hL8 : L ≤ 8) (hn : NoRing f L) : bnd c L ≤ K := by
  rcases Nat.mod_two_eq_zero_or_one L with q | q
  · exact moore_even g h0 he hc hc5 hL hL8 hn q
  · exact moore_odd g h0 he hc hc5 hL hL8 hn q
/-! an odd number of knots with an odd count: never -/
set_option maxRecDepth 16384 in
theorem sm_par {R : Nat → Nat → Bool} (hs : ∀ a b, R a b = R b a) (hi : ∀ a, R a a = false) : ∀ n : Nat, sm (fun a => cn (R a) n) n % 2 = 0
  | 0 => rfl
  | n + 1 => by
    have ih := sm_par hs hi n
    have e1 : sm (fun a => cn (R a) (n + 1)) n = sm (fun a => cn (R a) n) n + cn (R n) n := by
      rw [cn_sm (R n), ← sm_add]
      exact sm_ext (fun k _ => by rw [cn, hs k n])
    have e2 : cn (R n) (n + 1) = cn (R n) n := by rw [cn, hi n]; rfl
    rw [sm, e1, e2]
    omega
set_option maxRecDepth 16384 in
theorem cn_top_zero {p : Nat → Bool} {K : Nat} : ∀ n, (∀ k, K ≤ k → k < K + n → p k = false) → cn p (K + n) = cn p K
  | 0, _ => rfl
  | n + 1, h => by
    rw [show K + (n + 1) = (K + n) + 1 from rfl, cn, h (K + n) (by omega) (by omega), cn_top_zero n (fun k a b => h k a (by omega))]
    rfl
set_option maxRecDepth 16384 in
theorem handshake {K c : Nat} {f : Nat → Int32} (g : Gd K f) (he : ∀ u, u < K → dg f u = c) : K * c % 2 = 0 := by
  have hK := g.1
  have e : ∀ u, u < K → cn (fun w => decide (u < K) && tb (f u) w) K = c := fun u hu => by
    rw [← he u hu, dg]
    have := cn_top_zero (p := tb (f u)) (K := K) (16 - K) (fun k a b => by
      cases z : tb (f u) k with
      | false => rfl
      | true => have := (g.2.1 u k (by omega) z).2; omega)
    rw [show K + (16 - K) = 16 from by omega] at this
    rw [this]
    exact cn_ext (fun k _ => by simp [hu])
  have key := sm_par (R := fun a b => decide (a < K) && (decide (b < K) && tb (f a) b)) (fun a b => by
    rcases Nat.lt_or_ge a K with p | p <;> rcases Nat.lt_or_ge b K with q | q
    · rw [g.2.2.1 a b (by omega) (by omega)]; simp [p, q]
    · simp [p, show ¬ b < K from by omega]
    · simp [q, show ¬ a < K from by omega]
    · simp [show ¬ b < K from by omega]) (fun a => by
    rcases Nat.lt_or_ge a K with p | p
    · rw [g.2.2.2 a (by omega)]; simp
    · simp [show ¬ a < K from by omega]) K
  have e2 : sm (fun a => cn (fun b => decide (a < K) && (decide (b < K) && tb (f a) b)) K) K = K * c := by
    have : ∀ n, n ≤ K → sm (fun a => cn (fun b => decide (a < K) && (decide (b < K) && tb (f a) b)) K) n = n * c := by
      intro n
      induction n with
      | zero => intro _; rw [sm, Nat.zero_mul]
      | succ n ih =>
        intro hn
        rw [sm, ih (by omega), Nat.succ_mul]
        congr 1
        rw [← e n (by omega)]
        exact cn_ext (fun k hk => by simp [hk])
    exact this K (Nat.le_refl _)
  rw [e2] at key
  exact key
