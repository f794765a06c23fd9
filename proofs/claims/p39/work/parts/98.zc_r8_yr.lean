/-! every piece's year is one -/
section R8
variable {H V : Nat → Nat} {m : Nat} {L K : Nat → Nat} {Y : Nat → Int32}
def z_yr (m : Nat) (Y : Nat → Int32) : Prop := ∀ i, i < m → 1800 ≤ (Y i).toInt ∧ (Y i).toInt ≤ 2100
theorem z_yr_upd (h : z_yr m Y) {p : Nat} {y : Int32} (hy : 1800 ≤ y.toInt ∧ y.toInt ≤ 2100) : z_yr m (upd Y p y) := by
  intro i hi
  by_cases e : i = p
  · subst e; rw [z_updS]; exact hy
  · rw [z_updN e]; exact h i hi
theorem z_yr_ins (h : z_yr m Y) {p : Nat} (hp : p ≤ m) {y : Int32} (hy : 1800 ≤ y.toInt ∧ y.toInt ≤ 2100) : z_yr (m + 1) (a_ins p y Y) := by
  intro i hi
  unfold a_ins
  by_cases c : i < p
  · rw [if_pos c]; exact h i (by omega)
  · rw [if_neg c]
    by_cases c2 : i = p
    · rw [if_pos c2]; exact hy
    · rw [if_neg c2]; exact h (i - 1) (by omega)
theorem z_yr_del (h : z_yr m Y) {p : Nat} : z_yr (m - 1) (a_del p Y) := by
  intro i hi
  unfold a_del
  by_cases c : i < p
  · rw [if_pos c]; exact h i (by omega)
  · rw [if_neg c]; exact h (i + 1) (by omega)
theorem z_storeR_yr (h : z_yr m Y) {p q y r : Int32} {m2 : Nat} {L2 K2 : Nat → Nat} {Y2 : Nat → Int32} (hr : z_storeR H V m L K Y p q y r m2 L2 K2 Y2) : z_yr m2 Y2 := by
  rcases hr with ⟨-, -, rfl, -, -, rfl⟩ | ⟨l, k, l2, k2, j, hv, -, -, -, -, -, hs, hp⟩
  · exact h
  · rcases hp with ⟨-, -, rfl, -, -, rfl⟩ | ⟨-, -, -, rfl, -, -, rfl⟩ | ⟨-, -, -, rfl, -, -, rfl⟩
    · exact z_yr_upd h hv.2
    · exact h
    · exact z_yr_ins h hs.1 hv.2
theorem z_dropR_yr (h : z_yr m Y) {p q r : Int32} {m2 : Nat} {L2 K2 : Nat → Nat} {Y2 : Nat → Int32} (hr : z_dropR H V m L K Y p q r m2 L2 K2 Y2) : z_yr m2 Y2 := by
  rcases hr with ⟨-, -, rfl, -, -, rfl⟩ | ⟨l, k, l2, k2, j, -, -, -, -, -, -, -, ⟨-, -, rfl, -, -, rfl⟩ | ⟨-, -, rfl, -, -, rfl⟩⟩
  · exact h
  · exact z_yr_del h
  · exact h
theorem z_renewR_yr (h : z_yr m Y) {p y r : Int32} {Y2 : Nat → Int32} (hr : z_renewR m L Y p y r Y2) : z_yr m Y2 := by
  rcases hr with ⟨-, -, rfl⟩ | ⟨hv, -, rfl⟩
  · exact h
  · intro i hi
    unfold z_rnY
    by_cases c : i < m ∧ z_rnC L Y p y i = true
    · rw [if_pos c]; exact hv.2
    · rw [if_neg c]; exact h i hi
theorem z_tdT_yr : ∀ (j m : Nat) (L K : Nat → Nat) (Y : Nat → Int32) (x n2 m2 : Nat) (L2 K2 : Nat → Nat) (Y2 : Nat → Int32), z_yr m Y → z_tdT H V j m L K Y x n2 m2 L2 K2 Y2 → z_yr m2 Y2 := by
  intro j
  induction j with
  | zero =>
    intro m L K Y x n2 m2 L2 K2 Y2 h hr
    obtain ⟨-, rfl, -, -, rfl⟩ := hr
    exact h
  | succ j ih =>
    intro m L K Y x n2 m2 L2 K2 Y2 h hr
    rcases hr with ⟨-, b⟩ | ⟨-, b⟩
    · exact ih _ _ _ _ _ _ _ _ _ _ (z_yr_del h) b
    · exact ih _ _ _ _ _ _ _ _ _ _ h b
end R8
