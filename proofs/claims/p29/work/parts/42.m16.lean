abbrev GrowR := (Int32 × (Nat → Int32) × (Nat → Int32) × (Nat → Int32) × (Nat → Int32) × (Nat → Int32) × Int32 × Int32 × Int32 × Int32 × (Nat → Int32) × (Nat → Int32))
set_option maxRecDepth 16384 in
theorem L_grow_ok {K c L : Nat} {k : (Nat → Int32) → (Nat → Int32) → (Nat → Int32) → (Nat → Int32) → (Nat → Int32) → Int32 → Int32 → Int32 → Int32 → GrowR ⊕ Nat} {v : GrowR} {P : Prop}
    (hk : ∀ fa b1 b2 b3 b4 x1 x2 x3 x4, HI K fa b1 b2 b3 b4 c L x2 x3 x4 → (x2 = 0 ∨ x2 = 1 ∨ x2 = 2) → k fa b1 b2 b3 b4 x1 x2 x3 x4 = .inl v → P) : ∀ (n step : Nat) (fa b1 b2 b3 b4 : Nat → Int32) (x1 x2 x3 x4 : Int32), HI K fa b1 b2 b3 b4 c L x2 x3 x4 → (x2 = 0 ∨ x2 = 1 ∨ x2 = 2) → L_grow_43 K (nI c) (nI L) k n step fa b1 b2 b3 b4 x1 x2 x3 x4 = .inl v → P
  | 0, step, fa, b1, b2, b3, b4, x1, x2, x3, x4, h, hs, e => hk _ _ _ _ _ _ _ _ _ h hs e
  | n + 1, step, fa, b1, b2, b3, b4, x1, x2, x3, x4, h, hs, e => by
    rw [L_grow_43] at e
    by_cases c0 : x2 = 0
    · have e := if_to e c0
      subst c0
      obtain ⟨bw', bars', puts', bap', f', stp', sta', pm', bm', s1, s2, s3⟩ := h.step (stp := x1)
      have e := bd_to e s1.symm
      exact L_grow_ok hk n (step + 1) f' bw' bars' puts' bap' stp' sta' pm' bm' s2 s3 e
    · have e := if_no e c0
      exact hk _ _ _ _ _ _ _ _ _ h hs e
set_option maxRecDepth 16384 in
theorem grow_ok {K : Nat} {f bw bars puts bap g t : Nat → Int32} {isOn cnt len stp sta pm bm steps : Int32} {v : GrowR} (hN : NetOK K f) (hH : HuntOK K f bw bars puts bap isOn cnt len sta pm bm) (hg : LPv g) (ht : TB t) (h : P_grow K f bw bars puts bap isOn cnt len stp sta pm bm g t steps = .inl v) :
    isOn = 1 ∧ NetOK K v.2.1 ∧ HuntOK K v.2.1 v.2.2.1 v.2.2.2.1 v.2.2.2.2.1 v.2.2.2.2.2.1 1 cnt len v.2.2.2.2.2.2.2.1 v.2.2.2.2.2.2.2.2.1 v.2.2.2.2.2.2.2.2.2.1 ∧ LPv v.2.2.2.2.2.2.2.2.2.2.1 ∧ TB v.2.2.2.2.2.2.2.2.2.2.2 ∧
    v.1 = v.2.2.2.2.2.2.2.1 ∧ (v.1 = 2 → ∃ c L, cnt = nI c ∧ len = nI L ∧ 2 ≤ c ∧ c ≤ 5 ∧ 3 ≤ L ∧ L ≤ 8 ∧ ∀ G, ¬ Valid K c L G) := by
  rw [P_grow] at h
  by_cases c0 : P_isWithin steps 1 400 = 0
  · have h := if_to h c0; cases h
  · have h := if_no h c0
    by_cases c1 : isOn = 0
    · have h := if_to h c1; cases h
    · have h := if_no h c1
      rcases hH.2 with e | ⟨e, c, L, e1, e2, hi, hs⟩
      · exact absurd e c1
      · subst e1; subst e2
        refine ⟨e, ?_⟩
        refine L_grow_ok (fun fa b1 b2 b3 b4 x1 x2 x3 x4 hI hS h => ?_) steps.toNatClampNeg 0 f bw bars puts bap stp sta pm bm hi hs h
        have hI' := hI
        obtain ⟨q, e, s, p, b, B, P, g0, h0, hc2, hc, hL, hL8, hd, hn, _, hno⟩ := hI
        have h3 : 3 ≤ K := by have := hN.2.1; omega
        have N := hI'.net h3
        have H : HuntOK K fa b1 b2 b3 b4 1 (nI c) (nI L) x2 x3 x4 := ⟨hI'.bars, Or.inr ⟨rfl, c, L, rfl, rfl, hI', hS⟩⟩
        have T := look_spec ht N.1 N.2.1
        by_cases c2 : x2 = 2
        · have h := if_to h c2
          have h := bd_to h rfl
          have h := bd_to h rfl
          have h := Sum.inl.inj h
          subst h
          exact ⟨N, H, prove_spec hg N.1.1 hc2 hc hL hL8 (hno c2), T, rfl, fun _ => ⟨c, L, rfl, rfl, hc2, hc, hL, hL8, hno c2⟩⟩
        · have h := if_no h c2
          have h := bd_to h rfl
          have h := Sum.inl.inj h
          subst h
          exact ⟨N, H, hg, T, rfl, fun q => absurd q c2⟩
-- the hunt keeps its bars when something else happens
set_option maxRecDepth 16384 in
theorem HuntOK.off {K K' : Nat} {f f' bw bars puts bap : Nat → Int32} {isOn cnt len sta pm bm : Int32} (h : HuntOK K f bw bars puts bap isOn cnt len sta pm bm) : HuntOK K' f' bw bars puts bap 0 cnt len sta pm bm := ⟨h.1, Or.inl rfl⟩
-- it is sound whenever that is asked
set_option maxRecDepth 16384 in
theorem sound_ok {K : Nat} {f bw bars puts bap g t : Nat → Int32} {isOn cnt len sta pm bm : Int32} (hN : NetOK K f) (hH : HuntOK K f bw bars puts bap isOn cnt len sta pm bm) (hg : LPv g) (ht : TB t) : P_isSound K f isOn cnt len g t = 1 :=
  sound hN.1 hg ht (fun h1 => by
    rcases hH.2 with e | ⟨e, c, L, e1, e2, hi, hs⟩
    · exact absurd e h1
    · obtain ⟨q, e, s, p, b, B, P, g0, h0, hc2, hc, hL, hL8, hd, hn, _⟩ := hi
      exact ⟨c, L, e1, e2, hc, hL, hL8, hd, hn⟩)
-- an even garden of the kind with a count of 2 or more and a least ring of 3 to 8
set_option maxRecDepth 16384 in
theorem even_valid {K : Nat} {f : Nat → Int32} (hN : NetOK K f) (h1 : ¬ P_evenCount K f < 2) (h2 : ¬ P_leastRing K f < 3) (h3 : ¬ (8 : Int32) < P_leastRing K f) :
    ∃ c L, P_evenCount K f = nI c ∧ P_leastRing K f = nI L ∧ 2 ≤ c ∧ c ≤ 5 ∧ 3 ≤ L ∧ L ≤ 8 ∧ 0 < K ∧ Valid K c L f := by
  have g := hN.1
  have hK := g.1
  rcases even_spec g with e | ⟨c, d1, d2, d3, d4⟩
  · rw [e] at h1; exact absurd (by decide) h1
  · have c2 : 2 ≤ c := by
      rcases Nat.lt_or_ge c 2 with z | z
      · rw [d2] at h1; exact absurd (nI_lt (a := c) (b := 2) z (by omega)) h1
      · exact z
    have c5 : c ≤ 5 := by
      have := hN.2.2 0 d3
      rw [d4 0 d3] at this
      exact this
    rcases girth g with ⟨h, _⟩ | ⟨L, l1, l2, l3, _⟩
    · rw [h] at h2; exact absurd (by decide) h2
    · have l8 : L ≤ 8 := by
        rcases Nat.lt_or_ge 8 L with z | z
        · rw [l3] at h3; exact absurd (nI_lt (a := 8) (b := L) z (by omega)) h3
        · exact z
      exact ⟨c, L, d2, l3, c2, c5, l1, l8, d3, g, d4, girth_noring g (by omega) (Or.inr ⟨L, Nat.le_refl _, by omega, l3⟩)⟩
