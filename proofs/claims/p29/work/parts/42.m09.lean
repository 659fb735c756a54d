/-! pairs -/
set_option maxRecDepth 16384 in
theorem pairTab : ∀ q, q < 256 → P_oneOf (nI q) = nI (q / 16) ∧ P_otherOf (nI q) = nI (q % 16) := by decide +kernel
set_option maxRecDepth 16384 in
theorem pairOf_nI {a b : Nat} (ha : a < 16) (hb : b < 16) : P_pairOf (nI a) (nI b) = nI (a * 16 + b) := by
  have : ∀ a, a < 16 → ∀ b, b < 16 → P_pairOf (nI a) (nI b) = nI (a * 16 + b) := by decide +kernel
  exact this a ha b hb
-- a pair of knots as a number, and that it joins two
set_option maxRecDepth 16384 in
def Pr (q i j : Nat) : Prop := (i = q / 16 ∧ j = q % 16) ∨ (i = q % 16 ∧ j = q / 16)
set_option maxRecDepth 16384 in
theorem Pr.symm {q i j : Nat} (h : Pr q i j) : Pr q j i := h.elim (fun h => Or.inr ⟨h.2, h.1⟩) (fun h => Or.inl ⟨h.2, h.1⟩)
set_option maxRecDepth 16384 in
theorem Pr_of {a b i j : Nat} (hb : b < 16) : Pr (a * 16 + b) i j ↔ ((i = a ∧ j = b) ∨ (i = b ∧ j = a)) := by
  rw [Pr]; omega
set_option maxRecDepth 16384 in
def fl (q i j : Nat) : Bool := (i == q / 16 && j == q % 16) ^^ (i == q % 16 && j == q / 16)
set_option maxRecDepth 16384 in
theorem fl_Pr {q i j : Nat} (h : fl q i j = true) : Pr q i j := by
  rw [fl] at h
  cases e1 : (i == q / 16 && j == q % 16) with
  | true => exact Or.inl (by simpa using e1)
  | false =>
    rw [e1, Bool.false_xor] at h
    exact Or.inr (by simpa using h)
-- how often a pair stands in a row of pairs: even or odd
set_option maxRecDepth 16384 in
def px (q : Nat → Nat) : Nat → Nat → Nat → Bool
  | 0, _, _ => false
  | b + 1, i, j => px q b i j ^^ fl (q b) i j
set_option maxRecDepth 16384 in
theorem px_ex {q : Nat → Nat} : ∀ {b i j : Nat}, px q b i j = true → ∃ t, t < b ∧ Pr (q t) i j
  | 0, i, j, h => by cases h
  | b + 1, i, j, h => by
    rw [px] at h
    cases e : px q b i j with
    | true =>
      obtain ⟨t, a, c⟩ := px_ex e
      exact ⟨t, by omega, c⟩
    | false =>
      rw [e, Bool.false_xor] at h
      exact ⟨b, by omega, fl_Pr h⟩
set_option maxRecDepth 16384 in
theorem px_ext {q q' : Nat → Nat} : ∀ {b : Nat}, (∀ t, t < b → q t = q' t) → ∀ i j, px q b i j = px q' b i j
  | 0, _, i, j => rfl
  | b + 1, h, i, j => by rw [px, px, px_ext (fun t ht => h t (by omega)), h b (by omega)]
set_option maxRecDepth 16384 in
theorem flip_at {bw : Nat → Int32} {q : Nat} (hq : q < 256) {i : Nat} (hi : i < 16) (j : Nat) : tb (P_flipBar bw (P_oneOf (nI q)) (P_otherOf (nI q)) i) j = (tb (bw i) j ^^ fl q i j) := by
  obtain ⟨e1, e2⟩ := pairTab q hq
  have l1 : q / 16 < 16 := by omega
  have l2 : q % 16 < 16 := by omega
  rw [e1, e2, P_flipBar, if_neg (nI_pos (by omega)), if_neg (show ¬ (16 : Int32) ≤ nI (q / 16) from nI_ge (a := q / 16) (b := 16) l1 (by omega)), if_neg (nI_pos (by omega)), if_neg (show ¬ (16 : Int32) ≤ nI (q % 16) from nI_ge (a := q % 16) (b := 16) l2 (by omega))]
  simp only [bd]
  rw [nI_clamp (by omega), nI_clamp (by omega), upd_at, fl]
  have e (s : Int32) (k : Nat) (hk : k < 16) : tb (s ^^^ P_bit (nI k)) j = (tb s j ^^ (j == k)) := by rw [tb_xor, tb_bit (by omega)]
  split
  · rename_i h
    subst h
    rw [e _ _ l1, upd_at]
    split
    · rename_i h2
      rw [e _ _ l2, h2]
      simp [Bool.xor_assoc]
    · rename_i h2
      rw [beq_eq_false_iff_ne.mpr h2, beq_self_eq_true]
      simp
  · rename_i h
    rw [upd_at]
    split
    · rename_i h2
      subst h2
      rw [e _ _ l2, beq_eq_false_iff_ne.mpr h, beq_self_eq_true]
      simp
    · rename_i h2
      rw [beq_eq_false_iff_ne.mpr h, beq_eq_false_iff_ne.mpr h2]
      simp
-- the bars: b pairs, and the sets that they make
set_option maxRecDepth 16384 in
def Bars (bw bars : Nat → Int32) (bm : Int32) (q : Nat → Nat) (b : Nat) : Prop := b ≤ 120 ∧ bm = nI b ∧ (∀ t, t < b → bars t = nI (q t) ∧ q t < 256) ∧ ∀ i, i < 16 → ∀ j, tb (bw i) j = px q b i j
set_option maxRecDepth 16384 in
theorem nI_pred' (n : Nat) : nI (n + 1) - 1 = nI n := nI_pred n
set_option maxRecDepth 16384 in
theorem L_unbar {bars : Nat → Int32} {q : Nat → Nat} {s : Nat} : ∀ (n : Nat) (bw : Nat → Int32) (bm : Int32), Bars bw bars bm q (s + n) → ∃ bw', L_unbarDownTo_7 bars (nI s) (fun b many_ => (b, many_)) n (nI (s + n) - 1) bw bm = (bw', nI s) ∧ Bars bw' bars (nI s) q s
  | 0, bw, bm, h => ⟨bw, by rw [L_unbarDownTo_7, show bm = nI s from h.2.1], h.1, rfl, h.2.2.1, h.2.2.2⟩
  | n + 1, bw, bm, h => by
    obtain ⟨h1, h2, h3, h4⟩ := h
    have e : nI (s + (n + 1)) - 1 = nI (s + n) := nI_pred' (s + n)
    rw [e, L_unbarDownTo_7, if_neg (nI_pos (by omega)), if_neg (show ¬ (120 : Int32) ≤ nI (s + n) from nI_ge (a := s + n) (b := 120) (by omega) (by omega)), nI_clamp (by omega)]
    simp only [bd]
    obtain ⟨e1, e2⟩ := h3 (s + n) (by omega)
    rw [e1]
    have st : Bars (P_flipBar bw (P_oneOf (nI (q (s + n)))) (P_otherOf (nI (q (s + n))))) bars (nI (s + n)) q (s + n) :=
      ⟨by omega, rfl, fun t ht => h3 t (by omega), fun i hi j => by
        rw [flip_at e2 hi, h4 i hi j, show s + (n + 1) = (s + n) + 1 from rfl, px, Bool.xor_assoc, Bool.xor_self, Bool.xor_false]⟩
    rw [show nI (s + n) + (-1) = nI (s + n) - 1 from (Int32.sub_eq_add_neg _ _).symm]
    exact L_unbar n _ _ st
set_option maxRecDepth 16384 in
theorem unbar_spec {bw bars : Nat → Int32} {bm : Int32} {q : Nat → Nat} {b s : Nat} (h : Bars bw bars bm q b) (hs : s ≤ b) : ∃ bw', P_unbarDownTo bw bars bm (nI s) = (bw', nI s) ∧ Bars bw' bars (nI s) q s := by
  obtain ⟨n, rfl⟩ : ∃ n, b = s + n := ⟨b - s, by omega⟩
  have hb := h.1
  have he := h.2.1
  rw [P_unbarDownTo]
  simp only [bd]
  have en : ((bm - 1).toInt + 1 - (nI s).toInt).toNat = n := by
    rw [he, nI_toInt (by omega)]
    rcases Nat.eq_zero_or_pos (s + n) with z | z
    · have : s = 0 := by omega
      have : n = 0 := by omega
      subst this
      subst s
      decide
    · obtain ⟨m, hm⟩ : ∃ m, s + n = m + 1 := ⟨s + n - 1, by omega⟩
      rw [hm, nI_pred, nI_toInt (by omega)]
      omega
  rw [en, show bm - 1 = nI (s + n) - 1 from by rw [he]]
  exact L_unbar n bw bm h
set_option maxRecDepth 16384 in
theorem bar_spec {bw bars : Nat → Int32} {bm : Int32} {q : Nat → Nat} {b e : Nat} (h : Bars bw bars bm q b) (he : e < 256) : ∃ bw' bars' q' b', P_bar bw bars bm (nI e) = (bw', bars', nI b') ∧ Bars bw' bars' (nI b') q' b' ∧ (∀ t, t < b → q' t = q t) ∧ b ≤ b' ∧ ∀ t, t < b' → t < b ∨ q' t = e := by
  obtain ⟨h1, h2, h3, h4⟩ := h
  rw [P_bar, h2, if_neg (nI_pos (by omega))]
  split
  · exact ⟨bw, bars, q, b, rfl, ⟨h1, rfl, h3, h4⟩, fun t _ => rfl, Nat.le_refl _, fun t ht => Or.inl ht⟩
  · rename_i z
    have hb : b < 120 := by
      rcases Nat.lt_or_ge b 120 with y | y
      · exact y
      · exact absurd (show (120 : Int32) ≤ nI b from nI_le (a := 120) y (by omega)) z
    simp only [bd]
    obtain ⟨q', hq⟩ : ∃ q' : Nat → Nat, q' = fun t => if t = b then e else q t := ⟨_, rfl⟩
    have q1 : q' b = e := by rw [hq]; exact if_pos rfl
    have q2 : ∀ t, t < b → q' t = q t := fun t ht => by rw [hq]; exact if_neg (by omega)
    refine ⟨_, _, q', b + 1, by rw [nI_1, nI_clamp (by omega)], ⟨by omega, rfl, fun t ht => ?_, fun i hi j => ?_⟩, q2, by omega, fun t ht => ?_⟩
    · rw [upd_at]
      split
      · rename_i y; subst y; rw [q1]; exact ⟨rfl, he⟩
      · rw [q2 t (by omega)]; exact h3 t (by omega)
    · rw [flip_at he hi, h4 i hi j, px, q1]
      congr 1
      exact px_ext (fun t ht => (q2 t ht).symm) i j
    · rcases Nat.lt_or_ge t b with y | y
      · exact Or.inl y
      · right; rw [show t = b from by omega]; exact q1
/-! what the search looks at -/
set_option maxRecDepth 16384 in
theorem countOf_dg {K u : Nat} {f : Nat → Int32} (g : Gd K f) (hu : u < 16) : P_countOf f (nI u) = nI (dg f u) := by
  rw [P_countOf, nearOf_nI hu, bitCount_sz (g.rows u hu)]
  rfl
set_option maxRecDepth 16384 in
theorem dg_le {K u : Nat} {f : Nat → Int32} : dg f u ≤ 16 := cn_top _ _
set_option maxRecDepth 16384 in
theorem L_needy_spec {K c : Nat} {f : Nat → Int32} (g : Gd K f) (hc : c < 2 ^ 31) : ∀ (n i : Nat) (set : Int32), n + i = K → Sml set → (∀ j, tb set j = true ↔ (j < i ∧ dg f j < c)) → Sml (L_needy_4 K f (nI c) (fun set => set) n i set) ∧ ∀ j, tb (L_needy_4 K f (nI c) (fun set => set) n i set) j = true ↔ (j < K ∧ dg f j < c)
  | 0, i, set, hn, s, h => by
    have : i = K := by omega
    subst this
    exact ⟨s, h⟩
  | n + 1, i, set, hn, s, h => by
    have hK := g.1
    have hd := dg_le (K := K) (u := i) (f := f)
    rw [L_needy_4, countOf_dg g (by omega)]
    split
    · rename_i e
      have : c ≤ dg f i := by
        rcases Nat.lt_or_ge (dg f i) c with z | z
        · exact absurd e (nI_ge z hc)
        · exact z
      refine L_needy_spec g hc n (i + 1) set (by omega) s (fun j => (h j).trans ⟨fun q => ⟨by omega, q.2⟩, fun q => ⟨?_, q.2⟩⟩)
      rcases Nat.lt_or_ge j i with z | z
      · exact z
      · have : j = i := by omega
        subst this
        omega
    · rename_i e
      have : dg f i < c := by
        rcases Nat.lt_or_ge (dg f i) c with z | z
        · exact z
        · exact absurd (nI_le z (by omega)) e
      simp only [bd]
      refine L_needy_spec g hc n (i + 1) _ (by omega) (s.or (Sml.bit (by omega))) (fun j => ?_)
      rw [tb_or, Bool.or_eq_true, h j, tb_bit (by omega), beq_iff_eq]
      constructor
      · rintro (q | q)
        · exact ⟨by omega, q.2⟩
        · subst q; exact ⟨by omega, this⟩
      · rintro ⟨q1, q2⟩
        rcases Nat.lt_or_ge j i with z | z
        · exact Or.inl ⟨z, q2⟩
        · exact Or.inr (by omega)
set_option maxRecDepth 16384 in
theorem needy_spec {K c : Nat} {f : Nat → Int32} (g : Gd K f) (hc : c < 2 ^ 31) : Sml (P_needy K f (nI c)) ∧ ∀ j, tb (P_needy K f (nI c)) j = true ↔ (j < K ∧ dg f j < c) := by
  rw [P_needy]
  exact L_needy_spec g hc K 0 0 rfl Sml.zero (fun j => by rw [tb_zero]; exact ⟨fun q => (by cases q), fun q => (by omega)⟩)
set_option maxRecDepth 16384 in
theorem nI_sub2 : ∀ L, L < 9 → 3 ≤ L → (nI L - 2).toNatClampNeg = L - 2 := by decide +kernel
set_option maxRecDepth 16384 in
theorem joinable_spec {K c L v : Nat} {f bw : Nat → Int32} {needy : Int32} (g : Gd K f) (hL : 3 ≤ L) (hL8 : L ≤ 8) (hv : v < 16) (hs : Sml needy) (hn : tb needy v = true) :
    Sml (P_joinableOf f bw (nI L) (nI v) needy) ∧ ∀ j, tb (P_joinableOf f bw (nI L) (nI v) needy) j = true ↔ (tb needy j = true ∧ ¬ ball f v (L - 2) j ∧ tb (bw v) j = false) := by
  rw [P_joinableOf, holds_tb (by omega), hn, if_neg (by decide), if_neg (nI_pos (by omega)), if_pos (show nI v < (16 : Int32) from nI_lt (a := v) (b := 16) hv (by omega)), nI_clamp (by omega)]
  refine ⟨(hs.and).and, fun j => ?_⟩
  have w := (within_spec g.rows hv (nI L - 2)).2 j
  rw [nI_sub2 L (by omega) hL] at w
  rw [tb_and, tb_and, tb_not, tb_not, Bool.and_eq_true, Bool.and_eq_true, ← w]
  constructor
  · rintro ⟨⟨q1, q2⟩, q3⟩
    rw [Bool.and_eq_true] at q2 q3
    exact ⟨q1, by simpa using q2.2, by simpa using q3.2⟩
  · rintro ⟨q1, q2, q3⟩
    have := tb_lt q1
    refine ⟨⟨q1, ?_⟩, ?_⟩
    · simp [this]; simpa using q2
    · simp [this, q3]
set_option maxRecDepth 16384 in
theorem L_next_spec {K : Nat} {f bw : Nat → Int32} {cnt len sta needy : Int32} (hK : K ≤ 16) : ∀ (n i : Nat) (best fewest : Int32), n + i = K → (best = -1 ∨ ∃ v, v < K ∧ best = nI v ∧ tb needy v = true) →
    (L_nextKnot_24 K f bw cnt len sta (fun needy best fewest => best) n i needy best fewest = -1 ∨ ∃ v, v < K ∧ L_nextKnot_24 K f bw cnt len sta (fun needy best fewest => best) n i needy best fewest = nI v ∧ tb needy v = true)
  | 0, i, best, fewest, hn, h => h
  | n + 1, i, best, fewest, hn, h => by
    rw [L_nextKnot_24, holds_tb (by omega)]
    cases e : tb needy i with
    | false => rw [if_pos (by rfl)]; exact L_next_spec hK n (i + 1) _ _ (by omega) h
    | true =>
      rw [if_neg (by decide)]
      simp only [bd]
      split
      · exact L_next_spec hK n (i + 1) _ _ (by omega) h
      · exact L_next_spec hK n (i + 1) _ _ (by omega) (Or.inr ⟨i, by omega, rfl, e⟩)
set_option maxRecDepth 16384 in
theorem next_spec {K c : Nat} {f bw : Nat → Int32} {len sta : Int32} (hK : K ≤ 16) : P_nextKnot K f bw (nI c) len sta = -1 ∨ ∃ v, v < K ∧ P_nextKnot K f bw (nI c) len sta = nI v ∧ tb (P_needy K f (nI c)) v = true := by
  rw [P_nextKnot]
  split
  · simp only [bd]
    exact L_next_spec hK K 0 (-1) 16 rfl (Or.inl rfl)
  · exact Or.inl rfl
-- the partner: one that may be joined, or there are too few
set_option maxRecDepth 16384 in
theorem partner_spec {K c L v : Nat} {f bw : Nat → Int32} (g : Gd K f) (hc : c ≤ 5) (hL : 3 ≤ L) (hL8 : L ≤ 8) (hv : v < K) (hn : tb (P_needy K f (nI c)) v = true) :
    (P_partnerOf K f bw (nI c) (nI L) (nI v) = -1 ∧ cn (fun j => decide (j < K ∧ dg f j < c) && !(tb (P_within f (nI v) (nI L - 2)) j) && !(tb (bw v) j)) 16 < c - dg f v) ∨
    ∃ x, x < K ∧ P_partnerOf K f bw (nI c) (nI L) (nI v) = nI x ∧ dg f x < c ∧ ¬ ball f v (L - 2) x ∧ tb (bw v) x = false := by
  have hK := g.1
  obtain ⟨n1, n2⟩ := needy_spec g (c := c) (by omega)
  obtain ⟨j1, j2⟩ := joinable_spec (c := c) (bw := bw) g hL hL8 (v := v) (by omega) n1 hn
  have hdv := ((n2 v).mp hn).2
  rw [P_partnerOf, if_neg (nI_nem1 (by omega))]
  simp only [bd]
  rw [countOf_dg g (by omega), nI_sub (by omega), bitCount_sz j1]
  generalize P_joinableOf f bw (nI L) (nI v) (P_needy K f (nI c)) = op at j1 j2
  have hsz := sz_le op
  split
  · rename_i e
    left
    refine ⟨rfl, ?_⟩
    have : sz op < c - dg f v := by
      rcases Nat.lt_or_ge (sz op) (c - dg f v) with z | z
      · exact z
      · exact absurd e (nI_nlt z (by omega))
    refine Nat.lt_of_le_of_lt (cn_le (q := tb op) (fun k hk q => ?_)) this
    rw [Bool.and_eq_true, Bool.and_eq_true] at q
    have w := (within_spec g.rows (v := v) (by omega) (nI L - 2)).2 k
    rw [nI_sub2 L (by omega) hL] at w
    refine (j2 k).mpr ⟨(n2 k).mpr (by simpa using q.1.1), fun z => ?_, by simpa using q.2⟩
    rw [w.mpr z] at q
    simp at q
  · rename_i e
    right
    have hge : c - dg f v ≤ sz op := by
      rcases Nat.lt_or_ge (sz op) (c - dg f v) with z | z
      · exact absurd (nI_lt z (by omega)) e
      · exact z
    have h0 : op ≠ 0 := fun z => by
      have : sz op = 0 := by
        rw [z, sz]
        exact cn_zero (fun k _ => tb_zero k)
      omega
    obtain ⟨x, x1, x2, x3, _, _⟩ := first_of j1 h0
    obtain ⟨a, b, d⟩ := (j2 x).mp x2
    obtain ⟨a1, a2⟩ := (n2 x).mp a
    exact ⟨x, a1, by rw [P_firstOf, if_neg h0, x3], a2, b, d⟩
