/-! the hunt's numbers stay in their range -/
theorem kInc {x : Int32} (h0 : 0 ≤ x) (h1 : ¬ (120 : Int32) ≤ x) : 0 ≤ x + 1 := by
  have a0 : (0 : Int32).toInt ≤ x.toInt := Int32.le_iff_toInt_le.mp h0
  have a1 : ¬ (120 : Int32).toInt ≤ x.toInt := fun q => h1 (Int32.le_iff_toInt_le.mpr q)
  rw [show (0 : Int32).toInt = 0 from by decide] at a0
  rw [show (120 : Int32).toInt = 120 from by decide] at a1
  refine Int32.le_iff_toInt_le.mpr ?_
  rw [Int32.toInt_add, show (1 : Int32).toInt = 1 from by decide, show (0 : Int32).toInt = 0 from by decide, Int.bmod_eq_of_le (by omega) (by omega)]
  omega
theorem L_unbar_bm {bars : Nat → Int32} {many : Int32} : ∀ (n : Nat) (x : Int32) (b : Nat → Int32) (bm : Int32), 0 ≤ bm → 0 ≤ (L_unbarDownTo_7 bars many (fun b many_ => (b, many_)) n x b bm).2 := by
  intro n
  induction n with
  | zero => intro x b bm h; exact h
  | succ n ih =>
    intro x b bm h
    rw [L_unbarDownTo_7]
    split
    · exact ih _ _ _ h
    · split
      · exact ih _ _ _ h
      · exact ih _ _ _ (kNlt (by assumption))
theorem P_unbar_bm {bw bars : Nat → Int32} {bm many : Int32} (h : 0 ≤ bm) : 0 ≤ (P_unbarDownTo bw bars bm many).2 := by
  unfold P_unbarDownTo
  simp only [bd]
  exact L_unbar_bm _ _ _ _ h
theorem P_bar_bm {bw bars : Nat → Int32} {bm pair : Int32} (h : 0 ≤ bm) : 0 ≤ (P_bar bw bars bm pair).2.2 := by
  unfold P_bar
  split
  · exact h
  · split
    · exact h
    · exact kInc h (by assumption)
theorem P_goBack_bm {K : Nat} {f bw bars puts bap : Nat → Int32} {sta pm bm : Int32} (h : 0 ≤ bm) : 0 ≤ (P_goBack K f bw bars puts bap sta pm bm).2.2.2.2.2 := by
  obtain ⟨ρ, hρ⟩ : ∃ ρ, ρ = P_goBack K f bw bars puts bap sta pm bm := ⟨_, rfl⟩
  rw [← hρ]
  have hr := hρ.symm
  rewrite [P_goBack] at hr
  obtain ⟨la, ela⟩ : ∃ y, y = pm - 1 := ⟨_, rfl⟩
  have hr := bd_to hr ela
  have out : ∀ m, 0 ≤ (P_unbarDownTo bw bars bm m).2 := fun m => P_unbar_bm h
  by_cases c1 : la < 0
  · have hr := if_to hr c1
    have hr := bd_to hr rfl
    rw [← hr]
    exact out 0
  · have hr := if_no hr c1
    by_cases c2 : (40 : Int32) ≤ la
    · have hr := if_to hr c2
      have hr := bd_to hr rfl
      rw [← hr]
      exact out 0
    · have hr := if_no hr c2
      by_cases c3 : la < (40 : Int32)
      · have hr := if_to hr c3
        have hr := bd_to hr rfl
        obtain ⟨r8, er8⟩ : ∃ y, y = P_unbarDownTo bw bars bm (bap la.toNatClampNeg) := ⟨_, rfl⟩
        have hr := bd_to hr er8
        obtain ⟨r9, er9⟩ : ∃ y, y = P_bar r8.1 bars r8.2 (puts la.toNatClampNeg) := ⟨_, rfl⟩
        have hr := bd_to hr er9
        rw [← hr]
        show 0 ≤ r9.2.2
        rw [er9]
        refine P_bar_bm ?_
        rw [er8]
        exact out _
      · have hr := if_no hr c3
        have hr := bd_to hr rfl
        rw [← hr]
        exact out 0
theorem P_put_bap {K : Nat} {f puts bap : Nat → Int32} {pm bm knot partner : Int32} (h : ∀ j, 0 ≤ bap j) (hb : 0 ≤ bm) : ∀ j, 0 ≤ (P_put K f puts bap pm bm knot partner).2.1 j := by
  intro j
  unfold P_put
  repeat' split
  all_goals first | exact h j | (show 0 ≤ upd bap _ bm j; unfold upd; split <;> first | exact hb | exact h j)
theorem P_step_inv {K : Nat} {f bw bars puts bap : Nat → Int32} {cnt len stp sta pm bm : Int32} (h1 : ∀ j, 0 ≤ bap j) (h2 : 0 ≤ bm) : (∀ j, 0 ≤ (P_step K f bw bars puts bap cnt len stp sta pm bm).2.2.2.1 j) ∧ 0 ≤ (P_step K f bw bars puts bap cnt len stp sta pm bm).2.2.2.2.2.2.2.2 := by
  unfold P_step
  simp only [bd]
  repeat' split
  all_goals first | exact ⟨h1, h2⟩ | exact ⟨h1, P_goBack_bm h2⟩ | exact ⟨P_put_bap h1 h2, h2⟩
theorem P_step_i1 {K : Nat} {f bw bars puts bap : Nat → Int32} {cnt len stp sta pm bm : Int32} {r : (Nat → Int32) × (Nat → Int32) × (Nat → Int32) × (Nat → Int32) × (Nat → Int32) × Int32 × Int32 × Int32 × Int32} (e : r = P_step K f bw bars puts bap cnt len stp sta pm bm) (h1 : ∀ j, 0 ≤ bap j) (h2 : 0 ≤ bm) : ∀ j, 0 ≤ r.2.2.2.1 j := by
  rw [e]; exact (P_step_inv h1 h2).1
theorem P_step_i2 {K : Nat} {f bw bars puts bap : Nat → Int32} {cnt len stp sta pm bm : Int32} {r : (Nat → Int32) × (Nat → Int32) × (Nat → Int32) × (Nat → Int32) × (Nat → Int32) × Int32 × Int32 × Int32 × Int32} (e : r = P_step K f bw bars puts bap cnt len stp sta pm bm) (h1 : ∀ j, 0 ≤ bap j) (h2 : 0 ≤ bm) : 0 ≤ r.2.2.2.2.2.2.2.2 := by
  rw [e]; exact (P_step_inv h1 h2).2
