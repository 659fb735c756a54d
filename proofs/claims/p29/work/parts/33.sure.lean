/-! what never throws, by its arguments -/
theorem kWithin1 {x lo hi : Nat} {a b : Int32} (ha : a = nI lo) (hb : b = nI hi) (h1 : lo ≤ x) (h2 : x ≤ hi) (h3 : hi < 2 ^ 31) : P_isWithin (nI x) a b = 1 := by
  subst ha
  subst hb
  unfold P_isWithin
  rw [if_neg (nI_nlt h1 (by omega)), if_neg (nI_nlt h2 h3)]
theorem P_isKnot1 {K k : Nat} (h : k < K) (hK : K ≤ 16) : P_isKnot K (nI k) = 1 := by
  unfold P_isKnot
  rw [if_neg (nI_pos (by omega)), if_neg (nI_ge h (by omega)), if_neg (show ¬ (16 : Int32) ≤ nI k from nI_ge (a := k) (b := 16) (by omega) (by omega))]
theorem kOne {x : Int32} (h : x = 1) : ¬ x = 0 := by rw [h]; decide
theorem P_requireTabled1 {c g : Nat} (h1 : 2 ≤ c) (h2 : c ≤ 5) (h3 : 3 ≤ g) (h4 : g ≤ 8) : P_requireTabled (nI c) (nI g) = Sum.inl () := by
  unfold P_requireTabled
  rw [if_neg (kOne (kWithin1 (lo := 2) (hi := 5) (a := 2) (b := 5) rfl rfl h1 h2 (by omega))), if_neg (kOne (kWithin1 (lo := 3) (hi := 8) (a := 3) (b := 8) rfl rfl h3 h4 (by omega)))]
theorem P_ofKnot_ok {K k w : Nat} {f bw : Nat → Int32} {isOn cnt len : Int32} (h : k < K) (hK : K ≤ 16) (hw : w ≤ 5) : ∃ v, P_ofKnot K f bw isOn cnt len (nI k) (nI w) = Sum.inl v := by
  unfold P_ofKnot
  rw [if_neg (kOne (P_isKnot1 h hK)), if_neg (kOne (kWithin1 (lo := 0) (hi := 5) (a := 0) (b := 5) rfl rfl (by omega) hw (by omega)))]
  repeat' split
  all_goals exact ⟨_, rfl⟩
theorem P_table_ok {g t : Nat → Int32} {c l : Nat} {x : Int32} (h1 : 2 ≤ c) (h2 : c ≤ 5) (h3 : 3 ≤ l) (h4 : l ≤ 8) : ∃ v, P_table g t (nI c) (nI l) x = Sum.inl v := by
  unfold P_table
  rw [P_requireTabled1 h1 h2 h3 h4]
  simp only [sb]
  repeat' split
  all_goals exact ⟨_, rfl⟩
theorem P_search_ok {K : Nat} {f bw : Nat → Int32} {isOn cnt len stp sta pm bm : Int32} {w : Nat} (hw : w ≤ 7) : ∃ v, P_search K f bw isOn cnt len stp sta pm bm (nI w) = Sum.inl v := by
  unfold P_search
  rw [if_neg (kOne (kWithin1 (lo := 0) (hi := 7) (a := 0) (b := 7) rfl rfl (by omega) hw (by omega)))]
  repeat' split
  all_goals exact ⟨_, rfl⟩
theorem P_rings_ok {K : Nat} {f ta : Nat → Int32} {g : Nat} (h1 : 3 ≤ g) (h2 : g ≤ 7) : ∃ v, P_rings K f ta (nI g) = Sum.inl v := by
  unfold P_rings
  rw [if_neg (kOne (kWithin1 (lo := 3) (hi := 7) (a := 3) (b := 7) rfl rfl h1 h2 (by omega)))]
  exact ⟨_, rfl⟩
theorem P_now_ok {K : Nat} {f : Nat → Int32} {km rf : Int32} {KF : Nat} {ff : Nat → Int32} {KT : Nat} {tf im : Nat → Int32} {pl : Int32} {hu : Nat → Int32} {w : Nat} (hw : w ≤ 10) : ∃ v, P_now K f km rf KF ff KT tf im pl hu (nI w) = Sum.inl v := by
  unfold P_now
  rw [if_neg (kOne (kWithin1 (lo := 0) (hi := 10) (a := 0) (b := 10) rfl rfl (by omega) hw (by omega)))]
  simp only [bd]
  repeat' split
  all_goals exact ⟨_, rfl⟩
