/-! how many edges there are, and that each number below has its edge -/
set_option maxRecDepth 16384 in
def upc (f : Nat → Int32) (u : Nat) : Nat := cn (fun j => tb (f u) j && decide (u < j)) 16
set_option maxRecDepth 16384 in
def dnc (f : Nat → Int32) (u : Nat) : Nat := cn (fun j => tb (f u) j && decide (j < u)) 16
set_option maxRecDepth 16384 in
theorem dg_updn {K u : Nat} {f : Nat → Int32} (g : Gd K f) (hu : u < 16) : dg f u = upc f u + dnc f u := by
  rw [dg, ← cn_split (tb (f u)) (fun j => decide (u < j)) 16, upc, dnc]
  congr 1
  refine cn_ext (fun j hj => ?_)
  cases z : tb (f u) j with
  | false => rfl
  | true =>
    have := g.ne hu z
    rcases Nat.lt_trichotomy u j with y | y | y
    · simp [y]; omega
    · omega
    · simp [y]; omega
set_option maxRecDepth 16384 in
theorem sm_updn {K : Nat} {f : Nat → Int32} (g : Gd K f) : sm (upc f) 16 = sm (dnc f) 16 := by
  have e1 : sm (upc f) 16 = sm (fun u => sm (fun j => if tb (f u) j && decide (u < j) then 1 else 0) 16) 16 := sm_ext (fun u _ => by rw [upc, cn_sm])
  have e2 : sm (dnc f) 16 = sm (fun u => sm (fun j => if tb (f u) j && decide (j < u) then 1 else 0) 16) 16 := sm_ext (fun u _ => by rw [dnc, cn_sm])
  rw [e1, e2, sm_swap]
  refine sm_ext (fun u hu => sm_ext (fun j hj => ?_))
  show (if tb (f j) u && decide (j < u) then 1 else 0) = (if tb (f u) j && decide (j < u) then 1 else 0)
  rw [g.2.2.1 j u hj hu]
set_option maxRecDepth 16384 in
theorem sm_top {h : Nat → Nat} {K : Nat} : ∀ n, (∀ k, K ≤ k → k < K + n → h k = 0) → sm h (K + n) = sm h K
  | 0, _ => rfl
  | n + 1, e => by
    rw [show K + (n + 1) = (K + n) + 1 from rfl, sm, e (K + n) (by omega) (by omega), sm_top n (fun k a b => e k a (by omega))]
    rfl
set_option maxRecDepth 16384 in
theorem sm_K {K : Nat} {f : Nat → Int32} (g : Gd K f) {p : Nat → Nat → Bool} : sm (fun u => cn (fun j => tb (f u) j && p u j) 16) 16 = sm (fun u => cn (fun j => tb (f u) j && p u j) 16) K := by
  have hK := g.1
  have := sm_top (h := fun u => cn (fun j => tb (f u) j && p u j) 16) (K := K) (16 - K) (fun k a b => cn_zero (fun j _ => by
    cases z : tb (f k) j with
    | false => rfl
    | true => have := (g.2.1 k j (by omega) z).1; omega))
  rw [show K + (16 - K) = 16 from by omega] at this
  exact this
set_option maxRecDepth 16384 in
theorem sm_dg {K : Nat} {f : Nat → Int32} (g : Gd K f) : sm (dg f) K = 2 * sm (upc f) K := by
  have hK := g.1
  have e : sm (dg f) K = sm (upc f) K + sm (dnc f) K := by
    rw [← sm_add]
    exact sm_ext (fun u hu => dg_updn g (by omega))
  have e1 : sm (upc f) 16 = sm (upc f) K := sm_K g (p := fun u j => decide (u < j))
  have e2 : sm (dnc f) 16 = sm (dnc f) K := sm_K g (p := fun u j => decide (j < u))
  have := sm_updn g
  omega
set_option maxRecDepth 16384 in
theorem sm_bound {h : Nat → Nat} {b : Nat} : ∀ n, (∀ k, k < n → h k ≤ b) → sm h n ≤ n * b
  | 0, _ => by rw [sm]; omega
  | n + 1, e => by
    have a := sm_bound n (fun k hk => e k (by omega))
    have c := e n (by omega)
    rw [sm, Nat.succ_mul]
    omega
set_option maxRecDepth 16384 in
theorem sm_mono (h : Nat → Nat) {a : Nat} : ∀ n, sm h a ≤ sm h (a + n)
  | 0 => Nat.le_refl _
  | n + 1 => by
    have := sm_mono h (a := a) n
    rw [show a + (n + 1) = (a + n) + 1 from rfl, sm]
    omega
set_option maxRecDepth 16384 in
theorem L_edges {K : Nat} {f : Nat → Int32} (g : Gd K f) {k : Int32 → Int32} : ∀ (n i : Nat), n + i = K → L_edgesInAll_4 K f k n i (nI (sm (dg f) i)) = k (nI (sm (dg f) K))
  | 0, i, hn => by
    have : i = K := by omega
    subst this
    rfl
  | n + 1, i, hn => by
    have hK := g.1
    rw [L_edgesInAll_4, countOf_dg g (by omega)]
    simp only [bd]
    rw [nI_add]
    exact L_edges g n (i + 1) (by omega)
set_option maxRecDepth 16384 in
theorem halfTab : ∀ n, n < 300 → nI (2 * n) / 2 = nI n := by decide +kernel
set_option maxRecDepth 16384 in
theorem edges_spec {K : Nat} {f : Nat → Int32} (g : Gd K f) : P_edgesInAll K f = nI (sm (upc f) K) ∧ sm (upc f) K ≤ 256 := by
  have hK := g.1
  have hb : sm (upc f) K ≤ 256 := by
    have a := sm_bound (h := upc f) (b := 16) K (fun k _ => cn_top _ _)
    have : K * 16 ≤ 16 * 16 := Nat.mul_le_mul_right 16 hK
    omega
  refine ⟨?_, hb⟩
  rw [P_edgesInAll, show (0 : Int32) = nI (sm (dg f) 0) from rfl, L_edges g K 0 rfl, sm_dg g]
  exact halfTab _ (by omega)
set_option maxRecDepth 16384 in
theorem above_tb {f : Nat → Int32} {u : Nat} (hu : u < 16) (hf : Sml (f u)) (j : Nat) : tb (f u &&& ((P_bit (nI u + 1) - 1) ^^^ -1)) j = (tb (f u) j && decide (u < j)) := by
  have e : P_bit (nI u + 1) - 1 = nI (2 ^ (u + 1) - 1) := by
    rw [nI_1, bitTab (u + 1) (by omega), show (1 : Int32) = nI 1 from rfl, nI_sub (Nat.one_le_two_pow)]
  have hlt : 2 ^ (u + 1) - 1 < 2 ^ 32 := by
    have : 2 ^ (u + 1) ≤ 2 ^ 16 := Nat.pow_le_pow_right (by omega) (by omega)
    omega
  rw [e, tb_and, tb_not, tb_nI hlt, Nat.testBit_two_pow_sub_one]
  cases z : tb (f u) j with
  | false => rfl
  | true =>
    have := hf.lt z
    rcases Nat.lt_or_ge u j with y | y
    · simp [y]; omega
    · simp [show ¬ u < j from by omega]; omega
set_option maxRecDepth 16384 in
theorem L_edgeAt_some {K : Nat} {f : Nat → Int32} {number : Int32} (g : Gd K f) : ∀ (n one l : Nat), n + one = K → l < 2 ^ 31 → sm (upc f) one + l < sm (upc f) K → ¬ L_edgeAt_4 K f number (fun left => -1) n one (nI l) = -1
  | 0, one, l, hn, hl, h => by
    have : one = K := by omega
    subst this
    omega
  | n + 1, one, l, hn, hl, h => by
    have hK := g.1
    rw [L_edgeAt_4, if_neg (nI_pos hl)]
    simp only [bd]
    rw [nearOf_nI (by omega)]
    have s := (g.rows one (by omega)).and (b := ((P_bit (nI one + 1) - 1) ^^^ -1))
    have hsz : sz (f one &&& ((P_bit (nI one + 1) - 1) ^^^ -1)) = upc f one := by
      rw [sz, upc]
      exact cn_ext (fun k _ => above_tb (by omega) (g.rows one (by omega)) k)
    generalize hA : (f one &&& ((P_bit (nI one + 1) - 1) ^^^ -1)) = ab at s hsz
    have hs16 := sz_le ab
    rw [bitCount_sz s, hsz]
    by_cases c : nI (upc f one) ≤ nI l
    · rw [if_pos c]
      have : upc f one ≤ l := by
        rcases Nat.lt_or_ge l (upc f one) with z | z
        · exact absurd c (nI_ge z (by omega))
        · exact z
      rw [nI_sub this]
      exact L_edgeAt_some g n (one + 1) (l - upc f one) (by omega) (by omega) (by rw [sm]; omega)
    · rw [if_neg c]
      have : l < upc f one := by
        rcases Nat.lt_or_ge l (upc f one) with z | z
        · exact z
        · exact absurd (nI_le z hl) c
      obtain ⟨x, x1, x2, x3⟩ := L_numbered (set := ab) (place := nI l) (nI l).toNatClampNeg 0 ab s (by rw [nI_clamp hl]; omega)
      rw [P_numberedIn, x3, pairOf_nI (by omega) (by omega)]
      exact nI_nem1 (by omega)
-- every edge of a number answers
set_option maxRecDepth 16384 in
theorem ofEdge_ok {K : Nat} {f : Nat → Int32} (g : Gd K f) : ∀ i, i < (P_edgesInAll K f).toNatClampNeg → ∀ w, w ≤ 3 → ∃ v, P_ofEdge K f (nI i) (nI w) = Sum.inl v := by
  intro i hi w hw
  obtain ⟨e1, e2⟩ := edges_spec g
  rw [e1, nI_clamp (by omega)] at hi
  have hne : ¬ P_edgeAt K f (nI i) = -1 := by
    rw [P_edgeAt]
    exact L_edgeAt_some g K 0 i rfl (by omega) (by rw [sm]; omega)
  obtain ⟨v, hv⟩ : ∃ v, v = P_ofEdge K f (nI i) (nI w) := ⟨_, rfl⟩
  rw [← hv]
  have hr := hv.symm
  rw [P_ofEdge] at hr
  have hr := bd_to hr rfl
  have hr := if_no hr hne
  have hw1 : ¬ P_isWithin (nI w) 0 3 = 0 := by
    have := within_nI (a := 0) (b := 3) (n := w) (by omega) hw (by omega)
    rw [show (0 : Int32) = nI 0 from rfl, show (3 : Int32) = nI 3 from rfl, this]
    decide
  have hr := if_no hr hw1
  repeat' split at hr
  all_goals exact ⟨_, hr.symm⟩
