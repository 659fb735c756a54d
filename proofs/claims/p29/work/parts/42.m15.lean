/-! doubles -/
set_option maxRecDepth 16384 in
theorem Cyc.ext {f g : Nat → Int32} {n : Nat} {w : Nat → Nat} (h : Cyc f n w) (e : ∀ i, i < 16 → g i = f i) : Cyc g n w := h.mono (fun i j hi q => by rw [e i hi]; exact q)
-- no shorter ring, the same counts
set_option maxRecDepth 16384 in
theorem double_ok {K : Nat} {f fs t : Nat → Int32} {marks : Int32} {v : Int32 × (Nat → Int32) × (Nat → Int32) × (Nat → Int32)} (hN : NetOK K f) (ht : TB t) (h : P_doubled K f fs t marks = .inl v) :
    3 ≤ K ∧ K ≤ 8 ∧ NetOK (2 * K) v.2.1 ∧ TB v.2.2.2 ∧ (∀ u, u < 2 * K → dg v.2.1 u = dg f (u % K)) ∧ (P_leastRing (2 * K) v.2.1 = -1 ∨ ∃ l m, 3 ≤ l ∧ l ≤ m ∧ m ≤ 16 ∧ P_leastRing K f = nI l ∧ P_leastRing (2 * K) v.2.1 = nI m) := by
  rw [P_doubled] at h
  split at h
  · cases h
  · split at h
    · cases h
    · rename_i w
      have hK := hN.1.1
      obtain ⟨n, n1, n2, n3⟩ := (within_iff (a := 3) (b := 8) (by omega) (by omega)).resolve_left w
      have := nI_inj (by omega) (by omega) n3
      subst this
      have h : Sum.inl (P_leastRing (2 * K) (P_take f (P_layDouble K f fs marks)), P_take f (P_layDouble K f fs marks), P_layDouble K f fs marks, P_look t (2 * K) (P_take f (P_layDouble K f fs marks))) = Sum.inl v := h
      have h := Sum.inl.inj h
      subst h
      obtain ⟨gd, D⟩ := layDouble_spec (fs := fs) hN.1 (by omega) marks
      have e : ∀ i, i < 16 → P_take f (P_layDouble K f fs marks) i = P_layDouble K f fs marks i := fun i hi => take_at _ _ hi
      show 3 ≤ K ∧ K ≤ 8 ∧ NetOK (2 * K) (P_take f (P_layDouble K f fs marks)) ∧ TB (P_look t (2 * K) (P_take f (P_layDouble K f fs marks))) ∧ (∀ u, u < 2 * K → dg (P_take f (P_layDouble K f fs marks)) u = dg f (u % K)) ∧ (P_leastRing (2 * K) (P_take f (P_layDouble K f fs marks)) = -1 ∨ ∃ l m, 3 ≤ l ∧ l ≤ m ∧ m ≤ 16 ∧ P_leastRing K f = nI l ∧ P_leastRing (2 * K) (P_take f (P_layDouble K f fs marks)) = nI m)
      have gd' := gd.ext e
      have dgs : ∀ u, u < 2 * K → dg (P_take f (P_layDouble K f fs marks)) u = dg f (u % K) := fun u hu => by
        rw [dg_ext (e u (by omega))]
        exact dbl_count hN.1 gd D hu
      have N : NetOK (2 * K) (P_take f (P_layDouble K f fs marks)) := ⟨gd', Or.inr (by omega), fun u hu => by rw [dgs u hu]; exact hN.2.2 _ (Nat.mod_lt _ (by omega))⟩
      refine ⟨n1, n2, N, look_spec ht gd' (Or.inr (by omega)), dgs, ?_⟩
      rcases girth gd' with ⟨h1, _⟩ | ⟨m, a1, a2, a3, ⟨w', a4⟩, a5⟩
      · exact Or.inl h1
      · obtain ⟨m', w2, b1, b2⟩ := dbl_cyc hN.1 gd D (a4.ext (fun i hi => (e i hi).symm))
        rcases girth hN.1 with ⟨_, h2⟩ | ⟨l, c1, c2, c3, c4, c5⟩
        · exact absurd b2 (h2 m' w2 (by omega))
        · have := c5 m' w2 (by omega) b2
          exact Or.inr ⟨l, m, c1, by omega, a2, c3, a3⟩
/-! rings by jumps, as the law asks for them -/
set_option maxRecDepth 16384 in
def AG (f g : Nat → Int32) : Prop := ∀ i, i < 16 → f i = g i
set_option maxRecDepth 16384 in
theorem AG.join {K a b : Nat} {f g : Nat → Int32} (hK : K ≤ 16) (ha : a < K) (hb : b < K) (hab : a ≠ b) (h : AG f g) : AG (P_join K f (nI a) (nI b)) (P_join K g (nI a) (nI b)) := fun i hi => tb_ext (fun j _ => by
  rw [join_tb hK ha hb hab i j hi, join_tb hK ha hb hab i j hi, h i hi])
set_option maxRecDepth 16384 in
theorem L_jumps20 {M one : Nat} {jumps : Int32} (hM : M ≤ 16) (ho : one < M) {k : (Nat → Int32) → Nat → Int32} (hk : ∀ x y, Gd M x → AG x y → Gd M (k x) ∧ AG (k x) (k y)) : ∀ (n other : Nat) (x y : Nat → Int32), n + other = M → one < other → Gd M x → AG x y → Gd M (L_layByJumps_20 M jumps one k n other x) ∧ AG (L_layByJumps_20 M jumps one k n other x) (L_layByJumps_20 M jumps one k n other y)
  | 0, other, x, y, hn, hoo, g, h => hk x y g h
  | n + 1, other, x, y, hn, hoo, g, h => by
    rw [L_layByJumps_20, L_layByJumps_20]
    simp only [bd]
    by_cases c : P_holds jumps (if nI M - (nI other - nI one) < nI other - nI one then nI M - (nI other - nI one) else nI other - nI one) = 0
    · rw [if_pos c, if_pos c]
      exact L_jumps20 hM ho hk n (other + 1) x y (by omega) (by omega) g h
    · rw [if_neg c, if_neg c]
      exact L_jumps20 hM ho hk n (other + 1) _ _ (by omega) (by omega) (g.join ho (by omega) (by omega)) (h.join hM ho (by omega) (by omega))
set_option maxRecDepth 16384 in
theorem L_jumps10 {M : Nat} {jumps : Int32} (hM : M ≤ 16) : ∀ (n one : Nat) (x y : Nat → Int32), n + one = M → Gd M x → AG x y → Gd M (L_layByJumps_10 M jumps (fun fa => fa) n one x) ∧ AG (L_layByJumps_10 M jumps (fun fa => fa) n one x) (L_layByJumps_10 M jumps (fun fa => fa) n one y)
  | 0, one, x, y, hn, g, h => ⟨g, h⟩
  | n + 1, one, x, y, hn, g, h => by
    rw [L_layByJumps_10, L_layByJumps_10]
    exact L_jumps20 hM (by omega) (fun x y g h => L_jumps10 hM n (one + 1) x y (by omega) g h) (M - (one + 1)) (one + 1) x y (by omega) (by omega) g h
set_option maxRecDepth 16384 in
theorem jumps_spec {M : Nat} {f : Nat → Int32} (hM : M ≤ 16) (jumps : Int32) : Gd M (P_layByJumps f M jumps) ∧ AG (P_layByJumps f M jumps) (P_layByJumps (fun _ => 0) M jumps) := by
  rw [P_layByJumps, P_layByJumps]
  simp only [bd]
  exact L_jumps10 hM M 0 _ _ rfl (Gd.lay f hM) (fun i hi => by rw [lay_at f hi, lay_at _ hi])
set_option maxRecDepth 16384 in
theorem jumpTab : ∀ M, M < 11 → 3 ≤ M → ∀ q, q < 4 → ∀ u, u < M → (P_countByJumps (nI M) (nI (2 + 4 * q)) ≤ 5) → cn (tb (P_layByJumps (fun _ => 0) M (nI (2 + 4 * q)) u)) 16 ≤ 5 := by decide +kernel
set_option maxRecDepth 16384 in
theorem ring_ok {M q : Nat} {f t : Nat → Int32} {v : Int32 × (Nat → Int32) × (Nat → Int32)} (h3 : 3 ≤ M) (hM : M < 11) (hq : q < 4) (ht : TB t) (h : P_ring f t M (nI (2 + 4 * q)) = .inl v) : NetOK M v.2.1 ∧ TB v.2.2 := by
  have key : P_countByJumps (nI M) (nI (2 + 4 * q)) ≤ 5 ∧ v.2.1 = P_layByJumps f M (nI (2 + 4 * q)) ∧ v.2.2 = P_look t M (P_layByJumps f M (nI (2 + 4 * q))) := by
    rw [P_ring] at h
    split at h
    · cases h
    · have h := bd_to h rfl
      split at h
      · cases h
      · split at h
        · split at h
          · rename_i c
            have h := bd_to h rfl
            have h := bd_to h rfl
            have h := Sum.inl.inj h
            subst h
            exact ⟨c, rfl, rfl⟩
          · cases h
        · cases h
  obtain ⟨k1, k2, k3⟩ := key
  obtain ⟨g, a⟩ := jumps_spec (f := f) (M := M) (by omega) (nI (2 + 4 * q))
  rw [k2, k3]
  refine ⟨⟨g, Or.inr h3, fun u hu => ?_⟩, look_spec ht g (Or.inr h3)⟩
  rw [dg, a u (by omega)]
  exact jumpTab M hM h3 q hq u hu k1
/-! the search -/
-- the hunt: its bars always; its own while it is on
set_option maxRecDepth 16384 in
def HuntOK (K : Nat) (f bw bars puts bap : Nat → Int32) (isOn cnt len sta pm bm : Int32) : Prop := (∃ q b, Bars bw bars bm q b) ∧ (isOn = 0 ∨ (isOn = 1 ∧ ∃ c L, cnt = nI c ∧ len = nI L ∧ HI K f bw bars puts bap c L sta pm bm ∧ (sta = 0 ∨ sta = 1 ∨ sta = 2)))
set_option maxRecDepth 16384 in
theorem HI.bars {K c L : Nat} {f bw bars puts bap : Nat → Int32} {sta pm bm : Int32} (h : HI K f bw bars puts bap c L sta pm bm) : ∃ q b, Bars bw bars bm q b := by
  obtain ⟨q, e, s, p, b, B, _⟩ := h
  exact ⟨q, b, B⟩
set_option maxRecDepth 16384 in
theorem HI.net {K c L : Nat} {f bw bars puts bap : Nat → Int32} {sta pm bm : Int32} (h : HI K f bw bars puts bap c L sta pm bm) (h3 : 3 ≤ K) : NetOK K f := by
  obtain ⟨q, e, s, p, b, B, P, g, h0, hc2, hc, hL, hL8, hd, _⟩ := h
  exact ⟨g, Or.inr h3, fun u hu => by have := hd u hu; omega⟩
set_option maxRecDepth 16384 in
theorem tabled_ok {c L : Int32} (h : P_requireTabled c L = .inl ()) : ∃ a b, 2 ≤ a ∧ a ≤ 5 ∧ 3 ≤ b ∧ b ≤ 8 ∧ c = nI a ∧ L = nI b := by
  rw [P_requireTabled] at h
  split at h
  · cases h
  · rename_i h1
    split at h
    · cases h
    · rename_i h2
      obtain ⟨a, a1, a2, a3⟩ := (within_iff (a := 2) (b := 5) (by omega) (by omega)).resolve_left h1
      obtain ⟨b, b1, b2, b3⟩ := (within_iff (a := 3) (b := 8) (by omega) (by omega)).resolve_left h2
      exact ⟨a, b, a1, a2, b1, b2, a3, b3⟩
set_option maxRecDepth 16384 in
theorem aim_ok {K : Nat} {f bw bars g t puts bap : Nat → Int32} {bm c1 l1 : Int32} {v : Int32 × (Nat → Int32) × (Nat → Int32) × Int32 × (Nat → Int32)} (hN : NetOK K f) (hB : ∃ q b, Bars bw bars bm q b) (ht : TB t) (h : P_aim K f bw bars bm g t c1 l1 = .inl v) :
    NetOK K v.2.1 ∧ TB v.2.2.2.2 ∧ HuntOK K v.2.1 v.2.2.1 bars puts bap 1 c1 l1 0 0 v.2.2.2.1 := by
  rw [P_aim] at h
  cases e : P_requireTabled c1 l1 with
  | inr k => rw [e] at h; cases h
  | inl u =>
    obtain ⟨a, b, a1, a2, b1, b2, a3, b3⟩ := tabled_ok e
    have h := sb_l h e
    split at h
    · cases h
    · rename_i w
      have h0 : 0 < K := by
        rcases Nat.eq_zero_or_pos K with z | z
        · subst z; exact absurd rfl w
        · exact z
      have h3 : 3 ≤ K := by have := hN.2.1; omega
      have hK := hN.1.1
      have h := bd_to h rfl
      have h := bd_to h rfl
      have h := bd_to h rfl
      have h := Sum.inl.inj h
      subst h
      obtain ⟨q, n, B⟩ := hB
      obtain ⟨bw', u1, u2⟩ := unbar_spec (s := 0) B (by omega)
      have eb : P_begin bw bars bm = (bw', nI 0) := by
        rw [P_begin]
        show bd (P_unbarDownTo bw bars bm (nI 0)) _ = _
        rw [u1]
        rfl
      have N := NetOK.lay f h3 hK
      rw [eb]
      refine ⟨N, look_spec ht N.1 (Or.inr h3), ⟨q, 0, u2⟩, Or.inr ⟨rfl, a, b, a3, b3, ?_, Or.inl rfl⟩⟩
      refine ⟨q, fun _ => 0, fun _ => 0, 0, 0, u2, ⟨by omega, rfl, fun t ht => by omega, fun t u x y => by omega, fun t u x y => by omega, fun i j hi => ?_⟩, N.1, h0, a1, a2, b1, b2, fun u hu => ?_, ?_, fun _ G V => Or.inl ⟨fun t ht => by omega, fun t ht => by omega⟩, fun y => absurd y (by decide)⟩
      · show tb (P_lay f i) j = true ↔ _
        rw [lay_at f hi, tb_zero]
        exact ⟨fun x => (by cases x), fun ⟨t, x, _⟩ => (by omega)⟩
      · show dg (P_lay f) u ≤ a
        rw [dg_lay f (by omega)]
        omega
      · intro m w' _ c
        have := (c.2.2.1 0).2
        have e2 : tb (P_lay f (w' 0)) (w' (0 + 1)) = true := this
        rw [lay_at f (c.2.2.1 0).1, tb_zero] at e2
        cases e2
