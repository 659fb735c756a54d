/-! even gardens -/
set_option maxRecDepth 16384 in
theorem L_even {K : Nat} {f : Nat → Int32} (g : Gd K f) : ∀ (n i : Nat) (c : Nat), n + i = K → c ≤ 16 → (∀ u, u < i → dg f u = c) → L_evenCount_17 K f (fun count => count) n i (nI c) = -1 ∨ (L_evenCount_17 K f (fun count => count) n i (nI c) = nI c ∧ ∀ u, u < K → dg f u = c)
  | 0, i, c, hn, hc, h => Or.inr ⟨rfl, fun u hu => h u (by omega)⟩
  | n + 1, i, c, hn, hc, h => by
    have hK := g.1
    have hd := dg_le (K := K) (u := i) (f := f)
    rw [L_evenCount_17, countOf_dg g (by omega)]
    split
    · rename_i e
      have := nI_inj (by omega) (by omega) e
      exact L_even g n (i + 1) c (by omega) hc (fun u hu => by
        rcases Nat.lt_or_ge u i with z | z
        · exact h u z
        · rw [show u = i from by omega]; exact this)
    · exact Or.inl rfl
set_option maxRecDepth 16384 in
theorem even_spec {K : Nat} {f : Nat → Int32} (g : Gd K f) : P_evenCount K f = -1 ∨ ∃ c, c ≤ 16 ∧ P_evenCount K f = nI c ∧ 0 < K ∧ ∀ u, u < K → dg f u = c := by
  have hK := g.1
  rw [P_evenCount]
  split
  · exact Or.inl rfl
  · rename_i h
    have h0 : 0 < K := by
      rcases Nat.eq_zero_or_pos K with z | z
      · subst z; exact absurd rfl h
      · exact z
    simp only [bd]
    rw [show (0 : Int32) = nI 0 from rfl, countOf_dg g (by omega)]
    have hd := dg_le (K := K) (u := 0) (f := f)
    rcases L_even g (K - 1) 1 (dg f 0) (by omega) hd (fun u hu => by rw [show u = 0 from by omega]) with e | ⟨e1, e2⟩
    · exact Or.inl e
    · exact Or.inr ⟨dg f 0, hd, e1, h0, e2⟩
set_option maxRecDepth 16384 in
theorem within_iff {a b : Nat} {x : Int32} (ha : a < 2 ^ 31) (hb : b < 2 ^ 31) : P_isWithin x (nI a) (nI b) = 0 ∨ ∃ n, a ≤ n ∧ n ≤ b ∧ x = nI n := by
  rw [P_isWithin]
  split
  · exact Or.inl rfl
  · rename_i h1
    split
    · exact Or.inl rfl
    · rename_i h2
      have c : ¬ x.toInt < (nI a).toInt := fun q => h1 (Int32.lt_iff_toInt_lt.mpr q)
      have d : ¬ (nI b).toInt < x.toInt := fun q => h2 (Int32.lt_iff_toInt_lt.mpr q)
      rw [nI_toInt ha] at c
      rw [nI_toInt hb] at d
      refine Or.inr ⟨x.toInt.toNat, by omega, by omega, ?_⟩
      apply Int32.toInt_inj.mp
      rw [nI_toInt (by omega)]
      omega
set_option maxRecDepth 16384 in
theorem within_nI {a b n : Nat} (h1 : a ≤ n) (h2 : n ≤ b) (hb : b < 2 ^ 31) : P_isWithin (nI n) (nI a) (nI b) = 1 := by
  rw [P_isWithin, if_neg (nI_nlt h1 (by omega)), if_neg (nI_nlt h2 hb)]
/-! the ledger -/
set_option maxRecDepth 16384 in
theorem Valid.mono {K c L L' : Nat} {G : Nat → Int32} (h : Valid K c L G) (hL : L' ≤ L) : Valid K c L' G := ⟨h.1, h.2.1, fun m w hm => h.2.2 m w (by omega)⟩
set_option maxRecDepth 16384 in
theorem placeTab : ∀ K, K < 17 → ∀ c, c < 6 → 2 ≤ c → P_proofPlace (nI K) (nI c) = nI (K * 6 + c) := by decide +kernel
set_option maxRecDepth 16384 in
theorem tabTab : ∀ c, c < 6 → ∀ L, L < 9 → 2 ≤ c → 3 ≤ L → P_tablePlace (nI c) (nI L) = nI (c * 9 + L) := by decide +kernel
-- what was proved holds
set_option maxRecDepth 16384 in
def LPv (g : Nat → Int32) : Prop := ∀ K c, K ≤ 16 → 2 ≤ c → c ≤ 5 → g (K * 6 + c) = 0 ∨ ∃ L, 3 ≤ L ∧ L ≤ 8 ∧ g (K * 6 + c) = nI L ∧ ∀ G, ¬ Valid K c L G
set_option maxRecDepth 16384 in
theorem proved_spec {g : Nat → Int32} (h : LPv g) {K c L : Nat} (hK : K ≤ 16) (hc : 2 ≤ c) (hc5 : c ≤ 5) (hL : L ≤ 8) : P_isProved g (nI K) (nI c) (nI L) = 0 ∨ ∀ G, ¬ Valid K c L G := by
  rw [P_isProved, placeTab K (by omega) c (by omega) hc]
  simp only [bd]
  rw [if_neg (nI_nem1 (by omega)), nI_clamp (by omega)]
  rcases h K c hK hc hc5 with e | ⟨M, m1, m2, m3, m4⟩
  · rw [e, if_pos (by decide)]; exact Or.inl rfl
  · rw [m3, if_neg (nI_nle (by omega) (by omega))]
    split
    · exact Or.inl rfl
    · rename_i z
      have : M ≤ L := by
        rcases Nat.lt_or_ge L M with y | y
        · exact absurd (nI_lt y (by omega)) z
        · exact y
      exact Or.inr (fun G V => m4 G (V.mono this))
set_option maxRecDepth 16384 in
theorem prove_spec {g : Nat → Int32} (h : LPv g) {K c L : Nat} (hK : K ≤ 16) (hc : 2 ≤ c) (hc5 : c ≤ 5) (hL : 3 ≤ L) (hL8 : L ≤ 8) (no : ∀ G, ¬ Valid K c L G) : LPv (P_prove g (nI K) (nI c) (nI L)) := by
  rw [P_prove, placeTab K (by omega) c (by omega) hc]
  simp only [bd]
  rw [if_neg (nI_nem1 (by omega)), nI_clamp (by omega)]
  split
  · intro K' c' hK' hc' hc5'
    rw [upd_at]
    split
    · rename_i e
      have e1 : K' = K := by omega
      have e2 : c' = c := by omega
      subst e1; subst e2
      exact Or.inr ⟨L, hL, hL8, rfl, no⟩
    · exact h K' c' hK' hc' hc5'
  · exact h
set_option maxRecDepth 16384 in
theorem oddTab : ∀ n, n < 17 → (nI n - nI n / 2 * 2 = 1 ↔ n % 2 = 1) := by decide +kernel
-- an even garden is not ruled out
set_option maxRecDepth 16384 in
theorem why_zero {g G : Nat → Int32} (h : LPv g) {K c L : Nat} (h0 : 0 < K) (hc : 2 ≤ c) (hc5 : c ≤ 5) (hL : 3 ≤ L) (hL8 : L ≤ 8) (V : Valid K c L G) : P_why g (nI K) (nI c) (nI L) = 0 := by
  have hK := V.1.1
  have hs := handshake V.1 V.2.1
  have hm := moore V.1 h0 V.2.1 hc hc5 hL hL8 V.2.2
  have hp : P_isProved g (nI K) (nI c) (nI L) = 0 := (proved_spec h hK hc hc5 hL8).resolve_right (fun q => q G V)
  have hb := leastKnots_bnd c (by omega) L (by omega) hc hL
  have hle : P_leastKnots (nI c) (nI L) ≤ nI K := by rw [hb]; exact nI_le hm (by omega)
  rw [P_why]
  have odd : ¬ (K % 2 = 1 ∧ c % 2 = 1) := fun ⟨a, b⟩ => by
    rw [Nat.mul_mod, a, b] at hs
    cases hs
  split
  · rename_i e
    have e1 := (oddTab K (by omega)).mp e
    rw [if_neg (fun q => odd ⟨e1, (oddTab c (by omega)).mp q⟩)]
  · simp only [hle, hp, if_true, ite_self]
set_option maxRecDepth 16384 in
theorem bound_le {G : Nat → Int32} {K c L : Nat} (h0 : 0 < K) (hc : 2 ≤ c) (hc5 : c ≤ 5) (hL : 3 ≤ L) (hL8 : L ≤ 8) (V : Valid K c L G) : ¬ nI K < P_leastKnots (nI c) (nI L) := by
  have hK := V.1.1
  rw [leastKnots_bnd c (by omega) L (by omega) hc hL]
  exact nI_nlt (moore V.1 h0 V.2.1 hc hc5 hL hL8 V.2.2) (by omega)
-- the smallest ones that were
set_option maxRecDepth 16384 in
def TB (t : Nat → Int32) : Prop := ∀ c L, 2 ≤ c → c ≤ 5 → 3 ≤ L → L ≤ 8 → t (c * 9 + L) = 0 ∨ ∃ k G, 3 ≤ k ∧ k ≤ 16 ∧ t (c * 9 + L) = nI k ∧ Valid k c L G
set_option maxRecDepth 16384 in
theorem look_spec {t f : Nat → Int32} {K : Nat} (h : TB t) (g : Gd K f) (h3 : K = 0 ∨ 3 ≤ K) : TB (P_look t K f) := by
  have hK := g.1
  rw [P_look]
  simp only [bd]
  split
  · exact h
  · rename_i h1
    obtain ⟨c, c1, c2, c3⟩ := (within_iff (a := 2) (b := 5) (by omega) (by omega)).resolve_left h1
    rcases even_spec g with e | ⟨c', d1, d2, d3, d4⟩
    · rw [e] at c3; exact absurd c3.symm (nI_nem1 (by omega))
    · rw [c3] at d2
      have := nI_inj (by omega) (by omega) d2
      subst this
      rw [c3]
      split
      · exact h
      · rename_i h2
        have hl : ∃ L, 3 ≤ L ∧ L ≤ 8 ∧ P_leastRing K f = nI L := by
          rw [P_tablePlace] at h2
          simp only [bd] at h2
          split at h2
          · exact absurd rfl h2
          · split at h2
            · exact absurd rfl h2
            · rename_i h4
              exact (within_iff (a := 3) (b := 8) (by omega) (by omega)).resolve_left h4
        obtain ⟨L, l1, l2, l3⟩ := hl
        have V : Valid K c L f := ⟨g, d4, girth_noring g (by omega) (Or.inr ⟨L, Nat.le_refl _, by omega, l3⟩)⟩
        rw [l3, tabTab c (by omega) L (by omega) c1 l1, nI_clamp (by omega)]
        have new : TB (upd t (c * 9 + L) (nI K)) := by
          intro c' L' q1 q2 q3 q4
          rw [upd_at]
          split
          · rename_i e
            have e1 : c' = c := by omega
            have e2 : L' = L := by omega
            subst e1; subst e2
            exact Or.inr ⟨K, f, by omega, hK, rfl, V⟩
          · exact h c' L' q1 q2 q3 q4
        split
        · exact new
        · split
          · exact h
          · exact new
/-! soundness -/
set_option maxRecDepth 16384 in
theorem L_next_le {g : Nat → Int32} {c L : Int32} {m : Nat} (hm : m < 1000) (hw : P_why g (nI m) c L = 0) : ∀ (n k : Nat), k ≤ m → m < k + n → k + n ≤ 1000 → ∃ j, j ≤ m ∧ L_nextOf_2 g c L (-1) n k = nI j
  | 0, k, h1, h2, h3 => by omega
  | n + 1, k, h1, h2, h3 => by
    rw [L_nextOf_2]
    split
    · exact ⟨k, h1, rfl⟩
    · rename_i z
      rcases Nat.eq_or_lt_of_le h1 with y | y
      · subst y; exact absurd hw z
      · exact L_next_le hm hw n (k + 1) y (by omega) (by omega)
set_option maxRecDepth 16384 in
theorem tab_ok {g t : Nat → Int32} (hg : LPv g) (ht : TB t) {c L : Nat} (hc : 2 ≤ c) (hc5 : c ≤ 5) (hL : 3 ≤ L) (hL8 : L ≤ 8) : P_smallestOf t (nI c) (nI L) = -1 ∨ (P_why g (P_smallestOf t (nI c) (nI L)) (nI c) (nI L) = 0 ∧ P_nextOf g (nI c) (nI L) ≤ P_smallestOf t (nI c) (nI L)) := by
  rw [P_smallestOf, tabTab c (by omega) L (by omega) hc hL]
  simp only [bd]
  rw [if_neg (nI_nem1 (by omega)), nI_clamp (by omega)]
  rcases ht c L hc hc5 hL hL8 with e | ⟨k, G, k1, k2, k3, V⟩
  · rw [if_pos e]; exact Or.inl rfl
  · have hw := why_zero hg (by omega) hc hc5 hL hL8 V
    rw [k3, if_neg (nI_ne0 (by omega) (by omega))]
    right
    refine ⟨hw, ?_⟩
    obtain ⟨j, j1, j2⟩ := L_next_le (m := k) (by omega) hw 997 3 k1 (by omega) (by omega)
    rw [P_nextOf, j2]
    exact nI_le j1 (by omega)
set_option maxRecDepth 16384 in
theorem L_tab9 {g t : Nat → Int32} (hg : LPv g) (ht : TB t) {c : Nat} {k : Int32} (hc : 2 ≤ c) (hc5 : c ≤ 5) : ∀ (n L : Nat), n + L = 9 → 3 ≤ L → L_isTableSound_9 g t c k n L = k
  | 0, L, _, _ => rfl
  | n + 1, L, hn, hL => by
    rw [L_isTableSound_9]
    simp only [bd]
    rcases tab_ok hg ht hc hc5 hL (by omega) with e | ⟨e1, e2⟩
    · rw [if_pos e]; exact L_tab9 hg ht hc hc5 n (L + 1) (by omega) (by omega)
    · rw [if_pos e1, if_pos e2, ite_self]
      exact L_tab9 hg ht hc hc5 n (L + 1) (by omega) (by omega)
set_option maxRecDepth 16384 in
theorem L_tab2 {g t : Nat → Int32} (hg : LPv g) (ht : TB t) : ∀ (n c : Nat), n + c = 6 → 2 ≤ c → L_isTableSound_2 g t 1 n c = 1
  | 0, c, _, _ => rfl
  | n + 1, c, hn, hc => by
    rw [L_isTableSound_2, L_tab9 hg ht hc (by omega) 6 3 rfl (by omega)]
    exact L_tab2 hg ht n (c + 1) (by omega) (by omega)
set_option maxRecDepth 16384 in
theorem L_mut12 {K : Nat} {f : Nat → Int32} (g : Gd K f) {one : Nat} {k : Int32} (ho : one < K) : ∀ (n j : Nat), n + j = K → L_isMutual_12 K f one k n j = k
  | 0, j, _ => rfl
  | n + 1, j, hn => by
    have hK := g.1
    rw [L_isMutual_12, isNear_tb (by omega) (by omega), isNear_tb (by omega) (by omega), g.2.2.1 one j (by omega) (by omega)]
    simp only [bd]
    rw [if_pos trivial]
    have ih := L_mut12 g (k := k) ho n (j + 1) (by omega)
    cases z : tb (f j) one with
    | false => rw [if_pos (by rfl)]; exact ih
    | true =>
      have y : ¬ nI one = nI j := fun y => by
        have := nI_inj (by omega) (by omega) y
        subst this
        rw [g.2.2.2 one (by omega)] at z
        cases z
      rw [if_neg (by decide), if_neg y]
      exact ih
set_option maxRecDepth 16384 in
theorem L_mut2 {K : Nat} {f : Nat → Int32} (g : Gd K f) : ∀ (n i : Nat), n + i = K → L_isMutual_2 K f 1 n i = 1
  | 0, i, _ => rfl
  | n + 1, i, hn => by
    rw [L_isMutual_2, L_mut12 g (by omega) K 0 rfl]
    exact L_mut2 g n (i + 1) (by omega)
set_option maxRecDepth 16384 in
theorem L_aim {K c : Nat} {f : Nat → Int32} {isOn len k : Int32} (g : Gd K f) (hc : c ≤ 5) (hd : ∀ u, u < K → dg f u ≤ c) : ∀ (n i : Nat), n + i = K → L_isAimSound_14 K f isOn (nI c) len k n i = k
  | 0, i, _ => rfl
  | n + 1, i, hn => by
    have hK := g.1
    rw [L_isAimSound_14, countOf_dg g (by omega), if_pos (nI_le (hd i (by omega)) (by omega))]
    exact L_aim g hc hd n (i + 1) (by omega)
set_option maxRecDepth 16384 in
theorem evenSound {K : Nat} {f g : Nat → Int32} (gd : Gd K f) (hg : LPv g) : P_isEvenSound K f g = 1 := by
  have hK := gd.1
  rw [P_isEvenSound]
  simp only [bd]
  split
  · rfl
  · rename_i h1
    split
    · rfl
    · rename_i h2
      obtain ⟨c, c1, c2, c3⟩ := (within_iff (a := 2) (b := 5) (by omega) (by omega)).resolve_left h1
      obtain ⟨L, l1, l2, l3⟩ := (within_iff (a := 3) (b := 8) (by omega) (by omega)).resolve_left h2
      rcases even_spec gd with e | ⟨c', d1, d2, d3, d4⟩
      · rw [e] at c3; exact absurd c3.symm (nI_nem1 (by omega))
      · rw [c3] at d2
        have := nI_inj (by omega) (by omega) d2
        subst this
        rw [c3, l3, why_zero hg d3 c1 c2 l1 l2 ⟨gd, d4, girth_noring gd (by omega) (Or.inr ⟨L, Nat.le_refl _, by omega, l3⟩)⟩, if_pos rfl]
