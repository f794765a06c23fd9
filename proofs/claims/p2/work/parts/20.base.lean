/-! base: partial code as options, rows that take the code's next step, calls with the frame in the world's tail -/
def q_dv {β : Type} (x y : Int32) (k : Int32 → Option β) : Option β := if y = 0 then none else k (x / y)
def q_rm {β : Type} (x y : Int32) (k : Int32 → Option β) : Option β := if y = 0 then none else k (x - x / y * y)
def q_dvl {β : Type} (x y : Int64) (k : Int64 → Option β) : Option β := if y = 0 then none else k (x / y)
def q_rml {β : Type} (x y : Int64) (k : Int64 → Option β) : Option β := if y = 0 then none else k (x - x / y * y)
def q_ai {β : Type} (f : Nat → Int32) (n : Nat) (i : Int32) (k : Int32 → Option β) : Option β := if i < 0 ∨ n ≤ i.toNatClampNeg then none else k (f i.toNatClampNeg)
def q_al {β : Type} (f : Nat → Int64) (n : Nat) (i : Int32) (k : Int64 → Option β) : Option β := if i < 0 ∨ n ≤ i.toNatClampNeg then none else k (f i.toNatClampNeg)
def q_as {β : Type} (f : Nat → Int32) (n : Nat) (i x : Int32) (k : (Nat → Int32) → Option β) : Option β := if i < 0 ∨ n ≤ i.toNatClampNeg then none else k (upd f i.toNatClampNeg x)
def q_asb {β : Type} (f : Nat → Int32) (n : Nat) (i x : Int32) (k : (Nat → Int32) → Option β) : Option β := if i < 0 ∨ n ≤ i.toNatClampNeg then none else k (upd f i.toNatClampNeg (vp_nar .byte x))
def q_asl {β : Type} (f : Nat → Int64) (n : Nat) (i : Int32) (x : Int64) (k : (Nat → Int64) → Option β) : Option β := if i < 0 ∨ n ≤ i.toNatClampNeg then none else k (vp_updL f i.toNatClampNeg x)
def q_na {β : Type} (x : Int32) (L : Nat) (k : Option β) : Option β := if x < 0 ∨ 134217728 < L ∨ x.toNatClampNeg ≠ L then none else k
theorem q_na_e {β : Type} {x : Int32} {L : Nat} {k : Option β} {r : β} (h : q_na x L k = some r) : ¬ x < 0 ∧ x.toNatClampNeg = L ∧ L * 4 ≤ 536870912 ∧ k = some r := by
  unfold q_na at h; split at h
  · cases h
  · rename_i h0
    exact ⟨fun z => h0 (Or.inl z), Decidable.of_not_not (fun z => h0 (Or.inr (Or.inr z))), by have := fun z => h0 (Or.inr (Or.inl z)); omega, h⟩
def q_kx {β : Type} (i : Int32) (k : Nat) (K : Option β) : Option β := if i = nI k ∧ k < 8 then K else none
theorem q_kx_e {β : Type} {i : Int32} {k : Nat} {K : Option β} {r : β} (h : q_kx i k K = some r) : i = nI k ∧ k < 8 ∧ K = some r := by
  unfold q_kx at h; split at h
  · rename_i h0
    exact ⟨h0.1, h0.2, h⟩
  · cases h
def q_nm {α β : Type} (e : α) (k : α → Option β) : Option β := k e
def q_jn {α : Type} {β : Type} (K : α) (b : α → Option β) : Option β := b K
theorem q_dv_e {β : Type} {x y : Int32} {k : Int32 → Option β} {r : β} (h : q_dv x y k = some r) : ¬ y = 0 ∧ k (x / y) = some r := by
  unfold q_dv at h; split at h
  · cases h
  · exact ⟨‹_›, h⟩
theorem q_rm_e {β : Type} {x y : Int32} {k : Int32 → Option β} {r : β} (h : q_rm x y k = some r) : ¬ y = 0 ∧ k (x - x / y * y) = some r := by
  unfold q_rm at h; split at h
  · cases h
  · exact ⟨‹_›, h⟩
theorem q_dvl_e {β : Type} {x y : Int64} {k : Int64 → Option β} {r : β} (h : q_dvl x y k = some r) : ¬ y = 0 ∧ k (x / y) = some r := by
  unfold q_dvl at h; split at h
  · cases h
  · exact ⟨‹_›, h⟩
theorem q_rml_e {β : Type} {x y : Int64} {k : Int64 → Option β} {r : β} (h : q_rml x y k = some r) : ¬ y = 0 ∧ k (x - x / y * y) = some r := by
  unfold q_rml at h; split at h
  · cases h
  · exact ⟨‹_›, h⟩
theorem q_ai_e {β : Type} {f : Nat → Int32} {n : Nat} {i : Int32} {k : Int32 → Option β} {r : β} (h : q_ai f n i k = some r) : vp_in i n ∧ k (f i.toNatClampNeg) = some r := by
  unfold q_ai at h; split at h
  · cases h
  · exact ⟨‹_›, h⟩
theorem q_al_e {β : Type} {f : Nat → Int64} {n : Nat} {i : Int32} {k : Int64 → Option β} {r : β} (h : q_al f n i k = some r) : vp_in i n ∧ k (f i.toNatClampNeg) = some r := by
  unfold q_al at h; split at h
  · cases h
  · exact ⟨‹_›, h⟩
theorem q_as_e {β : Type} {f : Nat → Int32} {n : Nat} {i x : Int32} {k : (Nat → Int32) → Option β} {r : β} (h : q_as f n i x k = some r) : vp_in i n ∧ k (upd f i.toNatClampNeg x) = some r := by
  unfold q_as at h; split at h
  · cases h
  · exact ⟨‹_›, h⟩
theorem q_asb_e {β : Type} {f : Nat → Int32} {n : Nat} {i x : Int32} {k : (Nat → Int32) → Option β} {r : β} (h : q_asb f n i x k = some r) : vp_in i n ∧ k (upd f i.toNatClampNeg (vp_nar .byte x)) = some r := by
  unfold q_asb at h; split at h
  · cases h
  · exact ⟨‹_›, h⟩
theorem q_asl_e {β : Type} {f : Nat → Int64} {n : Nat} {i : Int32} {x : Int64} {k : (Nat → Int64) → Option β} {r : β} (h : q_asl f n i x k = some r) : vp_in i n ∧ k (vp_updL f i.toNatClampNeg x) = some r := by
  unfold q_asl at h; split at h
  · cases h
  · exact ⟨‹_›, h⟩
theorem q_nm_e {α β : Type} {e : α} {k : α → Option β} {r : β} (h : q_nm e k = some r) : ∃ y : α, y = e ∧ k y = some r := ⟨e, rfl, h⟩
theorem q_jn_e {α β : Type} {K : α} {b : α → Option β} {r : β} (h : q_jn K b = some r) : ∃ K' : α, K' = K ∧ b K' = some r := ⟨K, rfl, h⟩
theorem q_if_e {β : Type} {c : Prop} [d : Decidable c] {a b r : Option β} (h : (if c then a else b) = r) : (c ∧ a = r) ∨ (¬ c ∧ b = r) := by
  by_cases hc : c
  · rw [if_pos hc] at h; exact Or.inl ⟨hc, h⟩
  · rw [if_neg hc] at h; exact Or.inr ⟨hc, h⟩
def q_b1 {A1 β : Type} (m : Option (A1)) (k : A1 → Option β) : Option β := match m with | none => none | some x1 => k x1
theorem q_b1_e {A1 β : Type} {m : Option (A1)} {k : A1 → Option β} {r : β} (h : q_b1 m k = some r) : ∃ (x1 : A1), m = some x1 ∧ k x1 = some r := by
  cases m with
  | none => cases h
  | some v => exact ⟨v, rfl, h⟩
theorem q_b1_s {A1 β : Type} {k : A1 → Option β} (x1 : A1) : q_b1 (some x1) k = k x1 := rfl
def q_b2 {A1 A2 β : Type} (m : Option (A1 × A2)) (k : A1 → A2 → Option β) : Option β := match m with | none => none | some (x1, x2) => k x1 x2
theorem q_b2_e {A1 A2 β : Type} {m : Option (A1 × A2)} {k : A1 → A2 → Option β} {r : β} (h : q_b2 m k = some r) : ∃ (x1 : A1) (x2 : A2), m = some (x1, x2) ∧ k x1 x2 = some r := by
  cases m with
  | none => cases h
  | some v => exact ⟨v.1, v.2, rfl, h⟩
theorem q_b2_s {A1 A2 β : Type} {k : A1 → A2 → Option β} (x1 : A1) (x2 : A2) : q_b2 (some (x1, x2)) k = k x1 x2 := rfl
def q_b3 {A1 A2 A3 β : Type} (m : Option (A1 × A2 × A3)) (k : A1 → A2 → A3 → Option β) : Option β := match m with | none => none | some (x1, x2, x3) => k x1 x2 x3
theorem q_b3_e {A1 A2 A3 β : Type} {m : Option (A1 × A2 × A3)} {k : A1 → A2 → A3 → Option β} {r : β} (h : q_b3 m k = some r) : ∃ (x1 : A1) (x2 : A2) (x3 : A3), m = some (x1, x2, x3) ∧ k x1 x2 x3 = some r := by
  cases m with
  | none => cases h
  | some v => exact ⟨v.1, v.2.1, v.2.2, rfl, h⟩
theorem q_b3_s {A1 A2 A3 β : Type} {k : A1 → A2 → A3 → Option β} (x1 : A1) (x2 : A2) (x3 : A3) : q_b3 (some (x1, x2, x3)) k = k x1 x2 x3 := rfl
def q_b4 {A1 A2 A3 A4 β : Type} (m : Option (A1 × A2 × A3 × A4)) (k : A1 → A2 → A3 → A4 → Option β) : Option β := match m with | none => none | some (x1, x2, x3, x4) => k x1 x2 x3 x4
theorem q_b4_e {A1 A2 A3 A4 β : Type} {m : Option (A1 × A2 × A3 × A4)} {k : A1 → A2 → A3 → A4 → Option β} {r : β} (h : q_b4 m k = some r) : ∃ (x1 : A1) (x2 : A2) (x3 : A3) (x4 : A4), m = some (x1, x2, x3, x4) ∧ k x1 x2 x3 x4 = some r := by
  cases m with
  | none => cases h
  | some v => exact ⟨v.1, v.2.1, v.2.2.1, v.2.2.2, rfl, h⟩
theorem q_b4_s {A1 A2 A3 A4 β : Type} {k : A1 → A2 → A3 → A4 → Option β} (x1 : A1) (x2 : A2) (x3 : A3) (x4 : A4) : q_b4 (some (x1, x2, x3, x4)) k = k x1 x2 x3 x4 := rfl
def q_b5 {A1 A2 A3 A4 A5 β : Type} (m : Option (A1 × A2 × A3 × A4 × A5)) (k : A1 → A2 → A3 → A4 → A5 → Option β) : Option β := match m with | none => none | some (x1, x2, x3, x4, x5) => k x1 x2 x3 x4 x5
theorem q_b5_e {A1 A2 A3 A4 A5 β : Type} {m : Option (A1 × A2 × A3 × A4 × A5)} {k : A1 → A2 → A3 → A4 → A5 → Option β} {r : β} (h : q_b5 m k = some r) : ∃ (x1 : A1) (x2 : A2) (x3 : A3) (x4 : A4) (x5 : A5), m = some (x1, x2, x3, x4, x5) ∧ k x1 x2 x3 x4 x5 = some r := by
  cases m with
  | none => cases h
  | some v => exact ⟨v.1, v.2.1, v.2.2.1, v.2.2.2.1, v.2.2.2.2, rfl, h⟩
theorem q_b5_s {A1 A2 A3 A4 A5 β : Type} {k : A1 → A2 → A3 → A4 → A5 → Option β} (x1 : A1) (x2 : A2) (x3 : A3) (x4 : A4) (x5 : A5) : q_b5 (some (x1, x2, x3, x4, x5)) k = k x1 x2 x3 x4 x5 := rfl
def q_b6 {A1 A2 A3 A4 A5 A6 β : Type} (m : Option (A1 × A2 × A3 × A4 × A5 × A6)) (k : A1 → A2 → A3 → A4 → A5 → A6 → Option β) : Option β := match m with | none => none | some (x1, x2, x3, x4, x5, x6) => k x1 x2 x3 x4 x5 x6
theorem q_b6_e {A1 A2 A3 A4 A5 A6 β : Type} {m : Option (A1 × A2 × A3 × A4 × A5 × A6)} {k : A1 → A2 → A3 → A4 → A5 → A6 → Option β} {r : β} (h : q_b6 m k = some r) : ∃ (x1 : A1) (x2 : A2) (x3 : A3) (x4 : A4) (x5 : A5) (x6 : A6), m = some (x1, x2, x3, x4, x5, x6) ∧ k x1 x2 x3 x4 x5 x6 = some r := by
  cases m with
  | none => cases h
  | some v => exact ⟨v.1, v.2.1, v.2.2.1, v.2.2.2.1, v.2.2.2.2.1, v.2.2.2.2.2, rfl, h⟩
theorem q_b6_s {A1 A2 A3 A4 A5 A6 β : Type} {k : A1 → A2 → A3 → A4 → A5 → A6 → Option β} (x1 : A1) (x2 : A2) (x3 : A3) (x4 : A4) (x5 : A5) (x6 : A6) : q_b6 (some (x1, x2, x3, x4, x5, x6)) k = k x1 x2 x3 x4 x5 x6 := rfl
def q_b7 {A1 A2 A3 A4 A5 A6 A7 β : Type} (m : Option (A1 × A2 × A3 × A4 × A5 × A6 × A7)) (k : A1 → A2 → A3 → A4 → A5 → A6 → A7 → Option β) : Option β := match m with | none => none | some (x1, x2, x3, x4, x5, x6, x7) => k x1 x2 x3 x4 x5 x6 x7
theorem q_b7_e {A1 A2 A3 A4 A5 A6 A7 β : Type} {m : Option (A1 × A2 × A3 × A4 × A5 × A6 × A7)} {k : A1 → A2 → A3 → A4 → A5 → A6 → A7 → Option β} {r : β} (h : q_b7 m k = some r) : ∃ (x1 : A1) (x2 : A2) (x3 : A3) (x4 : A4) (x5 : A5) (x6 : A6) (x7 : A7), m = some (x1, x2, x3, x4, x5, x6, x7) ∧ k x1 x2 x3 x4 x5 x6 x7 = some r := by
  cases m with
  | none => cases h
  | some v => exact ⟨v.1, v.2.1, v.2.2.1, v.2.2.2.1, v.2.2.2.2.1, v.2.2.2.2.2.1, v.2.2.2.2.2.2, rfl, h⟩
theorem q_b7_s {A1 A2 A3 A4 A5 A6 A7 β : Type} {k : A1 → A2 → A3 → A4 → A5 → A6 → A7 → Option β} (x1 : A1) (x2 : A2) (x3 : A3) (x4 : A4) (x5 : A5) (x6 : A6) (x7 : A7) : q_b7 (some (x1, x2, x3, x4, x5, x6, x7)) k = k x1 x2 x3 x4 x5 x6 x7 := rfl
def q_b8 {A1 A2 A3 A4 A5 A6 A7 A8 β : Type} (m : Option (A1 × A2 × A3 × A4 × A5 × A6 × A7 × A8)) (k : A1 → A2 → A3 → A4 → A5 → A6 → A7 → A8 → Option β) : Option β := match m with | none => none | some (x1, x2, x3, x4, x5, x6, x7, x8) => k x1 x2 x3 x4 x5 x6 x7 x8
theorem q_b8_e {A1 A2 A3 A4 A5 A6 A7 A8 β : Type} {m : Option (A1 × A2 × A3 × A4 × A5 × A6 × A7 × A8)} {k : A1 → A2 → A3 → A4 → A5 → A6 → A7 → A8 → Option β} {r : β} (h : q_b8 m k = some r) : ∃ (x1 : A1) (x2 : A2) (x3 : A3) (x4 : A4) (x5 : A5) (x6 : A6) (x7 : A7) (x8 : A8), m = some (x1, x2, x3, x4, x5, x6, x7, x8) ∧ k x1 x2 x3 x4 x5 x6 x7 x8 = some r := by
  cases m with
  | none => cases h
  | some v => exact ⟨v.1, v.2.1, v.2.2.1, v.2.2.2.1, v.2.2.2.2.1, v.2.2.2.2.2.1, v.2.2.2.2.2.2.1, v.2.2.2.2.2.2.2, rfl, h⟩
theorem q_b8_s {A1 A2 A3 A4 A5 A6 A7 A8 β : Type} {k : A1 → A2 → A3 → A4 → A5 → A6 → A7 → A8 → Option β} (x1 : A1) (x2 : A2) (x3 : A3) (x4 : A4) (x5 : A5) (x6 : A6) (x7 : A7) (x8 : A8) : q_b8 (some (x1, x2, x3, x4, x5, x6, x7, x8)) k = k x1 x2 x3 x4 x5 x6 x7 x8 := rfl
def q_b9 {A1 A2 A3 A4 A5 A6 A7 A8 A9 β : Type} (m : Option (A1 × A2 × A3 × A4 × A5 × A6 × A7 × A8 × A9)) (k : A1 → A2 → A3 → A4 → A5 → A6 → A7 → A8 → A9 → Option β) : Option β := match m with | none => none | some (x1, x2, x3, x4, x5, x6, x7, x8, x9) => k x1 x2 x3 x4 x5 x6 x7 x8 x9
theorem q_b9_e {A1 A2 A3 A4 A5 A6 A7 A8 A9 β : Type} {m : Option (A1 × A2 × A3 × A4 × A5 × A6 × A7 × A8 × A9)} {k : A1 → A2 → A3 → A4 → A5 → A6 → A7 → A8 → A9 → Option β} {r : β} (h : q_b9 m k = some r) : ∃ (x1 : A1) (x2 : A2) (x3 : A3) (x4 : A4) (x5 : A5) (x6 : A6) (x7 : A7) (x8 : A8) (x9 : A9), m = some (x1, x2, x3, x4, x5, x6, x7, x8, x9) ∧ k x1 x2 x3 x4 x5 x6 x7 x8 x9 = some r := by
  cases m with
  | none => cases h
  | some v => exact ⟨v.1, v.2.1, v.2.2.1, v.2.2.2.1, v.2.2.2.2.1, v.2.2.2.2.2.1, v.2.2.2.2.2.2.1, v.2.2.2.2.2.2.2.1, v.2.2.2.2.2.2.2.2, rfl, h⟩
theorem q_b9_s {A1 A2 A3 A4 A5 A6 A7 A8 A9 β : Type} {k : A1 → A2 → A3 → A4 → A5 → A6 → A7 → A8 → A9 → Option β} (x1 : A1) (x2 : A2) (x3 : A3) (x4 : A4) (x5 : A5) (x6 : A6) (x7 : A7) (x8 : A8) (x9 : A9) : q_b9 (some (x1, x2, x3, x4, x5, x6, x7, x8, x9)) k = k x1 x2 x3 x4 x5 x6 x7 x8 x9 := rfl
def q_b10 {A1 A2 A3 A4 A5 A6 A7 A8 A9 A10 β : Type} (m : Option (A1 × A2 × A3 × A4 × A5 × A6 × A7 × A8 × A9 × A10)) (k : A1 → A2 → A3 → A4 → A5 → A6 → A7 → A8 → A9 → A10 → Option β) : Option β := match m with | none => none | some (x1, x2, x3, x4, x5, x6, x7, x8, x9, x10) => k x1 x2 x3 x4 x5 x6 x7 x8 x9 x10
theorem q_b10_e {A1 A2 A3 A4 A5 A6 A7 A8 A9 A10 β : Type} {m : Option (A1 × A2 × A3 × A4 × A5 × A6 × A7 × A8 × A9 × A10)} {k : A1 → A2 → A3 → A4 → A5 → A6 → A7 → A8 → A9 → A10 → Option β} {r : β} (h : q_b10 m k = some r) : ∃ (x1 : A1) (x2 : A2) (x3 : A3) (x4 : A4) (x5 : A5) (x6 : A6) (x7 : A7) (x8 : A8) (x9 : A9) (x10 : A10), m = some (x1, x2, x3, x4, x5, x6, x7, x8, x9, x10) ∧ k x1 x2 x3 x4 x5 x6 x7 x8 x9 x10 = some r := by
  cases m with
  | none => cases h
  | some v => exact ⟨v.1, v.2.1, v.2.2.1, v.2.2.2.1, v.2.2.2.2.1, v.2.2.2.2.2.1, v.2.2.2.2.2.2.1, v.2.2.2.2.2.2.2.1, v.2.2.2.2.2.2.2.2.1, v.2.2.2.2.2.2.2.2.2, rfl, h⟩
theorem q_b10_s {A1 A2 A3 A4 A5 A6 A7 A8 A9 A10 β : Type} {k : A1 → A2 → A3 → A4 → A5 → A6 → A7 → A8 → A9 → A10 → Option β} (x1 : A1) (x2 : A2) (x3 : A3) (x4 : A4) (x5 : A5) (x6 : A6) (x7 : A7) (x8 : A8) (x9 : A9) (x10 : A10) : q_b10 (some (x1, x2, x3, x4, x5, x6, x7, x8, x9, x10)) k = k x1 x2 x3 x4 x5 x6 x7 x8 x9 x10 := rfl
def q_b11 {A1 A2 A3 A4 A5 A6 A7 A8 A9 A10 A11 β : Type} (m : Option (A1 × A2 × A3 × A4 × A5 × A6 × A7 × A8 × A9 × A10 × A11)) (k : A1 → A2 → A3 → A4 → A5 → A6 → A7 → A8 → A9 → A10 → A11 → Option β) : Option β := match m with | none => none | some (x1, x2, x3, x4, x5, x6, x7, x8, x9, x10, x11) => k x1 x2 x3 x4 x5 x6 x7 x8 x9 x10 x11
theorem q_b11_e {A1 A2 A3 A4 A5 A6 A7 A8 A9 A10 A11 β : Type} {m : Option (A1 × A2 × A3 × A4 × A5 × A6 × A7 × A8 × A9 × A10 × A11)} {k : A1 → A2 → A3 → A4 → A5 → A6 → A7 → A8 → A9 → A10 → A11 → Option β} {r : β} (h : q_b11 m k = some r) : ∃ (x1 : A1) (x2 : A2) (x3 : A3) (x4 : A4) (x5 : A5) (x6 : A6) (x7 : A7) (x8 : A8) (x9 : A9) (x10 : A10) (x11 : A11), m = some (x1, x2, x3, x4, x5, x6, x7, x8, x9, x10, x11) ∧ k x1 x2 x3 x4 x5 x6 x7 x8 x9 x10 x11 = some r := by
  cases m with
  | none => cases h
  | some v => exact ⟨v.1, v.2.1, v.2.2.1, v.2.2.2.1, v.2.2.2.2.1, v.2.2.2.2.2.1, v.2.2.2.2.2.2.1, v.2.2.2.2.2.2.2.1, v.2.2.2.2.2.2.2.2.1, v.2.2.2.2.2.2.2.2.2.1, v.2.2.2.2.2.2.2.2.2.2, rfl, h⟩
theorem q_b11_s {A1 A2 A3 A4 A5 A6 A7 A8 A9 A10 A11 β : Type} {k : A1 → A2 → A3 → A4 → A5 → A6 → A7 → A8 → A9 → A10 → A11 → Option β} (x1 : A1) (x2 : A2) (x3 : A3) (x4 : A4) (x5 : A5) (x6 : A6) (x7 : A7) (x8 : A8) (x9 : A9) (x10 : A10) (x11 : A11) : q_b11 (some (x1, x2, x3, x4, x5, x6, x7, x8, x9, x10, x11)) k = k x1 x2 x3 x4 x5 x6 x7 x8 x9 x10 x11 := rfl
def q_b12 {A1 A2 A3 A4 A5 A6 A7 A8 A9 A10 A11 A12 β : Type} (m : Option (A1 × A2 × A3 × A4 × A5 × A6 × A7 × A8 × A9 × A10 × A11 × A12)) (k : A1 → A2 → A3 → A4 → A5 → A6 → A7 → A8 → A9 → A10 → A11 → A12 → Option β) : Option β := match m with | none => none | some (x1, x2, x3, x4, x5, x6, x7, x8, x9, x10, x11, x12) => k x1 x2 x3 x4 x5 x6 x7 x8 x9 x10 x11 x12
theorem q_b12_e {A1 A2 A3 A4 A5 A6 A7 A8 A9 A10 A11 A12 β : Type} {m : Option (A1 × A2 × A3 × A4 × A5 × A6 × A7 × A8 × A9 × A10 × A11 × A12)} {k : A1 → A2 → A3 → A4 → A5 → A6 → A7 → A8 → A9 → A10 → A11 → A12 → Option β} {r : β} (h : q_b12 m k = some r) : ∃ (x1 : A1) (x2 : A2) (x3 : A3) (x4 : A4) (x5 : A5) (x6 : A6) (x7 : A7) (x8 : A8) (x9 : A9) (x10 : A10) (x11 : A11) (x12 : A12), m = some (x1, x2, x3, x4, x5, x6, x7, x8, x9, x10, x11, x12) ∧ k x1 x2 x3 x4 x5 x6 x7 x8 x9 x10 x11 x12 = some r := by
  cases m with
  | none => cases h
  | some v => exact ⟨v.1, v.2.1, v.2.2.1, v.2.2.2.1, v.2.2.2.2.1, v.2.2.2.2.2.1, v.2.2.2.2.2.2.1, v.2.2.2.2.2.2.2.1, v.2.2.2.2.2.2.2.2.1, v.2.2.2.2.2.2.2.2.2.1, v.2.2.2.2.2.2.2.2.2.2.1, v.2.2.2.2.2.2.2.2.2.2.2, rfl, h⟩
theorem q_b12_s {A1 A2 A3 A4 A5 A6 A7 A8 A9 A10 A11 A12 β : Type} {k : A1 → A2 → A3 → A4 → A5 → A6 → A7 → A8 → A9 → A10 → A11 → A12 → Option β} (x1 : A1) (x2 : A2) (x3 : A3) (x4 : A4) (x5 : A5) (x6 : A6) (x7 : A7) (x8 : A8) (x9 : A9) (x10 : A10) (x11 : A11) (x12 : A12) : q_b12 (some (x1, x2, x3, x4, x5, x6, x7, x8, x9, x10, x11, x12)) k = k x1 x2 x3 x4 x5 x6 x7 x8 x9 x10 x11 x12 := rfl
def q_b13 {A1 A2 A3 A4 A5 A6 A7 A8 A9 A10 A11 A12 A13 β : Type} (m : Option (A1 × A2 × A3 × A4 × A5 × A6 × A7 × A8 × A9 × A10 × A11 × A12 × A13)) (k : A1 → A2 → A3 → A4 → A5 → A6 → A7 → A8 → A9 → A10 → A11 → A12 → A13 → Option β) : Option β := match m with | none => none | some (x1, x2, x3, x4, x5, x6, x7, x8, x9, x10, x11, x12, x13) => k x1 x2 x3 x4 x5 x6 x7 x8 x9 x10 x11 x12 x13
theorem q_b13_e {A1 A2 A3 A4 A5 A6 A7 A8 A9 A10 A11 A12 A13 β : Type} {m : Option (A1 × A2 × A3 × A4 × A5 × A6 × A7 × A8 × A9 × A10 × A11 × A12 × A13)} {k : A1 → A2 → A3 → A4 → A5 → A6 → A7 → A8 → A9 → A10 → A11 → A12 → A13 → Option β} {r : β} (h : q_b13 m k = some r) : ∃ (x1 : A1) (x2 : A2) (x3 : A3) (x4 : A4) (x5 : A5) (x6 : A6) (x7 : A7) (x8 : A8) (x9 : A9) (x10 : A10) (x11 : A11) (x12 : A12) (x13 : A13), m = some (x1, x2, x3, x4, x5, x6, x7, x8, x9, x10, x11, x12, x13) ∧ k x1 x2 x3 x4 x5 x6 x7 x8 x9 x10 x11 x12 x13 = some r := by
  cases m with
  | none => cases h
  | some v => exact ⟨v.1, v.2.1, v.2.2.1, v.2.2.2.1, v.2.2.2.2.1, v.2.2.2.2.2.1, v.2.2.2.2.2.2.1, v.2.2.2.2.2.2.2.1, v.2.2.2.2.2.2.2.2.1, v.2.2.2.2.2.2.2.2.2.1, v.2.2.2.2.2.2.2.2.2.2.1, v.2.2.2.2.2.2.2.2.2.2.2.1, v.2.2.2.2.2.2.2.2.2.2.2.2, rfl, h⟩
theorem q_b13_s {A1 A2 A3 A4 A5 A6 A7 A8 A9 A10 A11 A12 A13 β : Type} {k : A1 → A2 → A3 → A4 → A5 → A6 → A7 → A8 → A9 → A10 → A11 → A12 → A13 → Option β} (x1 : A1) (x2 : A2) (x3 : A3) (x4 : A4) (x5 : A5) (x6 : A6) (x7 : A7) (x8 : A8) (x9 : A9) (x10 : A10) (x11 : A11) (x12 : A12) (x13 : A13) : q_b13 (some (x1, x2, x3, x4, x5, x6, x7, x8, x9, x10, x11, x12, x13)) k = k x1 x2 x3 x4 x5 x6 x7 x8 x9 x10 x11 x12 x13 := rfl
def q_b14 {A1 A2 A3 A4 A5 A6 A7 A8 A9 A10 A11 A12 A13 A14 β : Type} (m : Option (A1 × A2 × A3 × A4 × A5 × A6 × A7 × A8 × A9 × A10 × A11 × A12 × A13 × A14)) (k : A1 → A2 → A3 → A4 → A5 → A6 → A7 → A8 → A9 → A10 → A11 → A12 → A13 → A14 → Option β) : Option β := match m with | none => none | some (x1, x2, x3, x4, x5, x6, x7, x8, x9, x10, x11, x12, x13, x14) => k x1 x2 x3 x4 x5 x6 x7 x8 x9 x10 x11 x12 x13 x14
theorem q_b14_e {A1 A2 A3 A4 A5 A6 A7 A8 A9 A10 A11 A12 A13 A14 β : Type} {m : Option (A1 × A2 × A3 × A4 × A5 × A6 × A7 × A8 × A9 × A10 × A11 × A12 × A13 × A14)} {k : A1 → A2 → A3 → A4 → A5 → A6 → A7 → A8 → A9 → A10 → A11 → A12 → A13 → A14 → Option β} {r : β} (h : q_b14 m k = some r) : ∃ (x1 : A1) (x2 : A2) (x3 : A3) (x4 : A4) (x5 : A5) (x6 : A6) (x7 : A7) (x8 : A8) (x9 : A9) (x10 : A10) (x11 : A11) (x12 : A12) (x13 : A13) (x14 : A14), m = some (x1, x2, x3, x4, x5, x6, x7, x8, x9, x10, x11, x12, x13, x14) ∧ k x1 x2 x3 x4 x5 x6 x7 x8 x9 x10 x11 x12 x13 x14 = some r := by
  cases m with
  | none => cases h
  | some v => exact ⟨v.1, v.2.1, v.2.2.1, v.2.2.2.1, v.2.2.2.2.1, v.2.2.2.2.2.1, v.2.2.2.2.2.2.1, v.2.2.2.2.2.2.2.1, v.2.2.2.2.2.2.2.2.1, v.2.2.2.2.2.2.2.2.2.1, v.2.2.2.2.2.2.2.2.2.2.1, v.2.2.2.2.2.2.2.2.2.2.2.1, v.2.2.2.2.2.2.2.2.2.2.2.2.1, v.2.2.2.2.2.2.2.2.2.2.2.2.2, rfl, h⟩
theorem q_b14_s {A1 A2 A3 A4 A5 A6 A7 A8 A9 A10 A11 A12 A13 A14 β : Type} {k : A1 → A2 → A3 → A4 → A5 → A6 → A7 → A8 → A9 → A10 → A11 → A12 → A13 → A14 → Option β} (x1 : A1) (x2 : A2) (x3 : A3) (x4 : A4) (x5 : A5) (x6 : A6) (x7 : A7) (x8 : A8) (x9 : A9) (x10 : A10) (x11 : A11) (x12 : A12) (x13 : A13) (x14 : A14) : q_b14 (some (x1, x2, x3, x4, x5, x6, x7, x8, x9, x10, x11, x12, x13, x14)) k = k x1 x2 x3 x4 x5 x6 x7 x8 x9 x10 x11 x12 x13 x14 := rfl
def q_b15 {A1 A2 A3 A4 A5 A6 A7 A8 A9 A10 A11 A12 A13 A14 A15 β : Type} (m : Option (A1 × A2 × A3 × A4 × A5 × A6 × A7 × A8 × A9 × A10 × A11 × A12 × A13 × A14 × A15)) (k : A1 → A2 → A3 → A4 → A5 → A6 → A7 → A8 → A9 → A10 → A11 → A12 → A13 → A14 → A15 → Option β) : Option β := match m with | none => none | some (x1, x2, x3, x4, x5, x6, x7, x8, x9, x10, x11, x12, x13, x14, x15) => k x1 x2 x3 x4 x5 x6 x7 x8 x9 x10 x11 x12 x13 x14 x15
theorem q_b15_e {A1 A2 A3 A4 A5 A6 A7 A8 A9 A10 A11 A12 A13 A14 A15 β : Type} {m : Option (A1 × A2 × A3 × A4 × A5 × A6 × A7 × A8 × A9 × A10 × A11 × A12 × A13 × A14 × A15)} {k : A1 → A2 → A3 → A4 → A5 → A6 → A7 → A8 → A9 → A10 → A11 → A12 → A13 → A14 → A15 → Option β} {r : β} (h : q_b15 m k = some r) : ∃ (x1 : A1) (x2 : A2) (x3 : A3) (x4 : A4) (x5 : A5) (x6 : A6) (x7 : A7) (x8 : A8) (x9 : A9) (x10 : A10) (x11 : A11) (x12 : A12) (x13 : A13) (x14 : A14) (x15 : A15), m = some (x1, x2, x3, x4, x5, x6, x7, x8, x9, x10, x11, x12, x13, x14, x15) ∧ k x1 x2 x3 x4 x5 x6 x7 x8 x9 x10 x11 x12 x13 x14 x15 = some r := by
  cases m with
  | none => cases h
  | some v => exact ⟨v.1, v.2.1, v.2.2.1, v.2.2.2.1, v.2.2.2.2.1, v.2.2.2.2.2.1, v.2.2.2.2.2.2.1, v.2.2.2.2.2.2.2.1, v.2.2.2.2.2.2.2.2.1, v.2.2.2.2.2.2.2.2.2.1, v.2.2.2.2.2.2.2.2.2.2.1, v.2.2.2.2.2.2.2.2.2.2.2.1, v.2.2.2.2.2.2.2.2.2.2.2.2.1, v.2.2.2.2.2.2.2.2.2.2.2.2.2.1, v.2.2.2.2.2.2.2.2.2.2.2.2.2.2, rfl, h⟩
theorem q_b15_s {A1 A2 A3 A4 A5 A6 A7 A8 A9 A10 A11 A12 A13 A14 A15 β : Type} {k : A1 → A2 → A3 → A4 → A5 → A6 → A7 → A8 → A9 → A10 → A11 → A12 → A13 → A14 → A15 → Option β} (x1 : A1) (x2 : A2) (x3 : A3) (x4 : A4) (x5 : A5) (x6 : A6) (x7 : A7) (x8 : A8) (x9 : A9) (x10 : A10) (x11 : A11) (x12 : A12) (x13 : A13) (x14 : A14) (x15 : A15) : q_b15 (some (x1, x2, x3, x4, x5, x6, x7, x8, x9, x10, x11, x12, x13, x14, x15)) k = k x1 x2 x3 x4 x5 x6 x7 x8 x9 x10 x11 x12 x13 x14 x15 := rfl
def q_b16 {A1 A2 A3 A4 A5 A6 A7 A8 A9 A10 A11 A12 A13 A14 A15 A16 β : Type} (m : Option (A1 × A2 × A3 × A4 × A5 × A6 × A7 × A8 × A9 × A10 × A11 × A12 × A13 × A14 × A15 × A16)) (k : A1 → A2 → A3 → A4 → A5 → A6 → A7 → A8 → A9 → A10 → A11 → A12 → A13 → A14 → A15 → A16 → Option β) : Option β := match m with | none => none | some (x1, x2, x3, x4, x5, x6, x7, x8, x9, x10, x11, x12, x13, x14, x15, x16) => k x1 x2 x3 x4 x5 x6 x7 x8 x9 x10 x11 x12 x13 x14 x15 x16
theorem q_b16_e {A1 A2 A3 A4 A5 A6 A7 A8 A9 A10 A11 A12 A13 A14 A15 A16 β : Type} {m : Option (A1 × A2 × A3 × A4 × A5 × A6 × A7 × A8 × A9 × A10 × A11 × A12 × A13 × A14 × A15 × A16)} {k : A1 → A2 → A3 → A4 → A5 → A6 → A7 → A8 → A9 → A10 → A11 → A12 → A13 → A14 → A15 → A16 → Option β} {r : β} (h : q_b16 m k = some r) : ∃ (x1 : A1) (x2 : A2) (x3 : A3) (x4 : A4) (x5 : A5) (x6 : A6) (x7 : A7) (x8 : A8) (x9 : A9) (x10 : A10) (x11 : A11) (x12 : A12) (x13 : A13) (x14 : A14) (x15 : A15) (x16 : A16), m = some (x1, x2, x3, x4, x5, x6, x7, x8, x9, x10, x11, x12, x13, x14, x15, x16) ∧ k x1 x2 x3 x4 x5 x6 x7 x8 x9 x10 x11 x12 x13 x14 x15 x16 = some r := by
  cases m with
  | none => cases h
  | some v => exact ⟨v.1, v.2.1, v.2.2.1, v.2.2.2.1, v.2.2.2.2.1, v.2.2.2.2.2.1, v.2.2.2.2.2.2.1, v.2.2.2.2.2.2.2.1, v.2.2.2.2.2.2.2.2.1, v.2.2.2.2.2.2.2.2.2.1, v.2.2.2.2.2.2.2.2.2.2.1, v.2.2.2.2.2.2.2.2.2.2.2.1, v.2.2.2.2.2.2.2.2.2.2.2.2.1, v.2.2.2.2.2.2.2.2.2.2.2.2.2.1, v.2.2.2.2.2.2.2.2.2.2.2.2.2.2.1, v.2.2.2.2.2.2.2.2.2.2.2.2.2.2.2, rfl, h⟩
theorem q_b16_s {A1 A2 A3 A4 A5 A6 A7 A8 A9 A10 A11 A12 A13 A14 A15 A16 β : Type} {k : A1 → A2 → A3 → A4 → A5 → A6 → A7 → A8 → A9 → A10 → A11 → A12 → A13 → A14 → A15 → A16 → Option β} (x1 : A1) (x2 : A2) (x3 : A3) (x4 : A4) (x5 : A5) (x6 : A6) (x7 : A7) (x8 : A8) (x9 : A9) (x10 : A10) (x11 : A11) (x12 : A12) (x13 : A13) (x14 : A14) (x15 : A15) (x16 : A16) : q_b16 (some (x1, x2, x3, x4, x5, x6, x7, x8, x9, x10, x11, x12, x13, x14, x15, x16)) k = k x1 x2 x3 x4 x5 x6 x7 x8 x9 x10 x11 x12 x13 x14 x15 x16 := rfl
def q_b17 {A1 A2 A3 A4 A5 A6 A7 A8 A9 A10 A11 A12 A13 A14 A15 A16 A17 β : Type} (m : Option (A1 × A2 × A3 × A4 × A5 × A6 × A7 × A8 × A9 × A10 × A11 × A12 × A13 × A14 × A15 × A16 × A17)) (k : A1 → A2 → A3 → A4 → A5 → A6 → A7 → A8 → A9 → A10 → A11 → A12 → A13 → A14 → A15 → A16 → A17 → Option β) : Option β := match m with | none => none | some (x1, x2, x3, x4, x5, x6, x7, x8, x9, x10, x11, x12, x13, x14, x15, x16, x17) => k x1 x2 x3 x4 x5 x6 x7 x8 x9 x10 x11 x12 x13 x14 x15 x16 x17
theorem q_b17_e {A1 A2 A3 A4 A5 A6 A7 A8 A9 A10 A11 A12 A13 A14 A15 A16 A17 β : Type} {m : Option (A1 × A2 × A3 × A4 × A5 × A6 × A7 × A8 × A9 × A10 × A11 × A12 × A13 × A14 × A15 × A16 × A17)} {k : A1 → A2 → A3 → A4 → A5 → A6 → A7 → A8 → A9 → A10 → A11 → A12 → A13 → A14 → A15 → A16 → A17 → Option β} {r : β} (h : q_b17 m k = some r) : ∃ (x1 : A1) (x2 : A2) (x3 : A3) (x4 : A4) (x5 : A5) (x6 : A6) (x7 : A7) (x8 : A8) (x9 : A9) (x10 : A10) (x11 : A11) (x12 : A12) (x13 : A13) (x14 : A14) (x15 : A15) (x16 : A16) (x17 : A17), m = some (x1, x2, x3, x4, x5, x6, x7, x8, x9, x10, x11, x12, x13, x14, x15, x16, x17) ∧ k x1 x2 x3 x4 x5 x6 x7 x8 x9 x10 x11 x12 x13 x14 x15 x16 x17 = some r := by
  cases m with
  | none => cases h
  | some v => exact ⟨v.1, v.2.1, v.2.2.1, v.2.2.2.1, v.2.2.2.2.1, v.2.2.2.2.2.1, v.2.2.2.2.2.2.1, v.2.2.2.2.2.2.2.1, v.2.2.2.2.2.2.2.2.1, v.2.2.2.2.2.2.2.2.2.1, v.2.2.2.2.2.2.2.2.2.2.1, v.2.2.2.2.2.2.2.2.2.2.2.1, v.2.2.2.2.2.2.2.2.2.2.2.2.1, v.2.2.2.2.2.2.2.2.2.2.2.2.2.1, v.2.2.2.2.2.2.2.2.2.2.2.2.2.2.1, v.2.2.2.2.2.2.2.2.2.2.2.2.2.2.2.1, v.2.2.2.2.2.2.2.2.2.2.2.2.2.2.2.2, rfl, h⟩
theorem q_b17_s {A1 A2 A3 A4 A5 A6 A7 A8 A9 A10 A11 A12 A13 A14 A15 A16 A17 β : Type} {k : A1 → A2 → A3 → A4 → A5 → A6 → A7 → A8 → A9 → A10 → A11 → A12 → A13 → A14 → A15 → A16 → A17 → Option β} (x1 : A1) (x2 : A2) (x3 : A3) (x4 : A4) (x5 : A5) (x6 : A6) (x7 : A7) (x8 : A8) (x9 : A9) (x10 : A10) (x11 : A11) (x12 : A12) (x13 : A13) (x14 : A14) (x15 : A15) (x16 : A16) (x17 : A17) : q_b17 (some (x1, x2, x3, x4, x5, x6, x7, x8, x9, x10, x11, x12, x13, x14, x15, x16, x17)) k = k x1 x2 x3 x4 x5 x6 x7 x8 x9 x10 x11 x12 x13 x14 x15 x16 x17 := rfl
def q_b18 {A1 A2 A3 A4 A5 A6 A7 A8 A9 A10 A11 A12 A13 A14 A15 A16 A17 A18 β : Type} (m : Option (A1 × A2 × A3 × A4 × A5 × A6 × A7 × A8 × A9 × A10 × A11 × A12 × A13 × A14 × A15 × A16 × A17 × A18)) (k : A1 → A2 → A3 → A4 → A5 → A6 → A7 → A8 → A9 → A10 → A11 → A12 → A13 → A14 → A15 → A16 → A17 → A18 → Option β) : Option β := match m with | none => none | some (x1, x2, x3, x4, x5, x6, x7, x8, x9, x10, x11, x12, x13, x14, x15, x16, x17, x18) => k x1 x2 x3 x4 x5 x6 x7 x8 x9 x10 x11 x12 x13 x14 x15 x16 x17 x18
theorem q_b18_e {A1 A2 A3 A4 A5 A6 A7 A8 A9 A10 A11 A12 A13 A14 A15 A16 A17 A18 β : Type} {m : Option (A1 × A2 × A3 × A4 × A5 × A6 × A7 × A8 × A9 × A10 × A11 × A12 × A13 × A14 × A15 × A16 × A17 × A18)} {k : A1 → A2 → A3 → A4 → A5 → A6 → A7 → A8 → A9 → A10 → A11 → A12 → A13 → A14 → A15 → A16 → A17 → A18 → Option β} {r : β} (h : q_b18 m k = some r) : ∃ (x1 : A1) (x2 : A2) (x3 : A3) (x4 : A4) (x5 : A5) (x6 : A6) (x7 : A7) (x8 : A8) (x9 : A9) (x10 : A10) (x11 : A11) (x12 : A12) (x13 : A13) (x14 : A14) (x15 : A15) (x16 : A16) (x17 : A17) (x18 : A18), m = some (x1, x2, x3, x4, x5, x6, x7, x8, x9, x10, x11, x12, x13, x14, x15, x16, x17, x18) ∧ k x1 x2 x3 x4 x5 x6 x7 x8 x9 x10 x11 x12 x13 x14 x15 x16 x17 x18 = some r := by
  cases m with
  | none => cases h
  | some v => exact ⟨v.1, v.2.1, v.2.2.1, v.2.2.2.1, v.2.2.2.2.1, v.2.2.2.2.2.1, v.2.2.2.2.2.2.1, v.2.2.2.2.2.2.2.1, v.2.2.2.2.2.2.2.2.1, v.2.2.2.2.2.2.2.2.2.1, v.2.2.2.2.2.2.2.2.2.2.1, v.2.2.2.2.2.2.2.2.2.2.2.1, v.2.2.2.2.2.2.2.2.2.2.2.2.1, v.2.2.2.2.2.2.2.2.2.2.2.2.2.1, v.2.2.2.2.2.2.2.2.2.2.2.2.2.2.1, v.2.2.2.2.2.2.2.2.2.2.2.2.2.2.2.1, v.2.2.2.2.2.2.2.2.2.2.2.2.2.2.2.2.1, v.2.2.2.2.2.2.2.2.2.2.2.2.2.2.2.2.2, rfl, h⟩
theorem q_b18_s {A1 A2 A3 A4 A5 A6 A7 A8 A9 A10 A11 A12 A13 A14 A15 A16 A17 A18 β : Type} {k : A1 → A2 → A3 → A4 → A5 → A6 → A7 → A8 → A9 → A10 → A11 → A12 → A13 → A14 → A15 → A16 → A17 → A18 → Option β} (x1 : A1) (x2 : A2) (x3 : A3) (x4 : A4) (x5 : A5) (x6 : A6) (x7 : A7) (x8 : A8) (x9 : A9) (x10 : A10) (x11 : A11) (x12 : A12) (x13 : A13) (x14 : A14) (x15 : A15) (x16 : A16) (x17 : A17) (x18 : A18) : q_b18 (some (x1, x2, x3, x4, x5, x6, x7, x8, x9, x10, x11, x12, x13, x14, x15, x16, x17, x18)) k = k x1 x2 x3 x4 x5 x6 x7 x8 x9 x10 x11 x12 x13 x14 x15 x16 x17 x18 := rfl
def q_b19 {A1 A2 A3 A4 A5 A6 A7 A8 A9 A10 A11 A12 A13 A14 A15 A16 A17 A18 A19 β : Type} (m : Option (A1 × A2 × A3 × A4 × A5 × A6 × A7 × A8 × A9 × A10 × A11 × A12 × A13 × A14 × A15 × A16 × A17 × A18 × A19)) (k : A1 → A2 → A3 → A4 → A5 → A6 → A7 → A8 → A9 → A10 → A11 → A12 → A13 → A14 → A15 → A16 → A17 → A18 → A19 → Option β) : Option β := match m with | none => none | some (x1, x2, x3, x4, x5, x6, x7, x8, x9, x10, x11, x12, x13, x14, x15, x16, x17, x18, x19) => k x1 x2 x3 x4 x5 x6 x7 x8 x9 x10 x11 x12 x13 x14 x15 x16 x17 x18 x19
theorem q_b19_e {A1 A2 A3 A4 A5 A6 A7 A8 A9 A10 A11 A12 A13 A14 A15 A16 A17 A18 A19 β : Type} {m : Option (A1 × A2 × A3 × A4 × A5 × A6 × A7 × A8 × A9 × A10 × A11 × A12 × A13 × A14 × A15 × A16 × A17 × A18 × A19)} {k : A1 → A2 → A3 → A4 → A5 → A6 → A7 → A8 → A9 → A10 → A11 → A12 → A13 → A14 → A15 → A16 → A17 → A18 → A19 → Option β} {r : β} (h : q_b19 m k = some r) : ∃ (x1 : A1) (x2 : A2) (x3 : A3) (x4 : A4) (x5 : A5) (x6 : A6) (x7 : A7) (x8 : A8) (x9 : A9) (x10 : A10) (x11 : A11) (x12 : A12) (x13 : A13) (x14 : A14) (x15 : A15) (x16 : A16) (x17 : A17) (x18 : A18) (x19 : A19), m = some (x1, x2, x3, x4, x5, x6, x7, x8, x9, x10, x11, x12, x13, x14, x15, x16, x17, x18, x19) ∧ k x1 x2 x3 x4 x5 x6 x7 x8 x9 x10 x11 x12 x13 x14 x15 x16 x17 x18 x19 = some r := by
  cases m with
  | none => cases h
  | some v => exact ⟨v.1, v.2.1, v.2.2.1, v.2.2.2.1, v.2.2.2.2.1, v.2.2.2.2.2.1, v.2.2.2.2.2.2.1, v.2.2.2.2.2.2.2.1, v.2.2.2.2.2.2.2.2.1, v.2.2.2.2.2.2.2.2.2.1, v.2.2.2.2.2.2.2.2.2.2.1, v.2.2.2.2.2.2.2.2.2.2.2.1, v.2.2.2.2.2.2.2.2.2.2.2.2.1, v.2.2.2.2.2.2.2.2.2.2.2.2.2.1, v.2.2.2.2.2.2.2.2.2.2.2.2.2.2.1, v.2.2.2.2.2.2.2.2.2.2.2.2.2.2.2.1, v.2.2.2.2.2.2.2.2.2.2.2.2.2.2.2.2.1, v.2.2.2.2.2.2.2.2.2.2.2.2.2.2.2.2.2.1, v.2.2.2.2.2.2.2.2.2.2.2.2.2.2.2.2.2.2, rfl, h⟩
theorem q_b19_s {A1 A2 A3 A4 A5 A6 A7 A8 A9 A10 A11 A12 A13 A14 A15 A16 A17 A18 A19 β : Type} {k : A1 → A2 → A3 → A4 → A5 → A6 → A7 → A8 → A9 → A10 → A11 → A12 → A13 → A14 → A15 → A16 → A17 → A18 → A19 → Option β} (x1 : A1) (x2 : A2) (x3 : A3) (x4 : A4) (x5 : A5) (x6 : A6) (x7 : A7) (x8 : A8) (x9 : A9) (x10 : A10) (x11 : A11) (x12 : A12) (x13 : A13) (x14 : A14) (x15 : A15) (x16 : A16) (x17 : A17) (x18 : A18) (x19 : A19) : q_b19 (some (x1, x2, x3, x4, x5, x6, x7, x8, x9, x10, x11, x12, x13, x14, x15, x16, x17, x18, x19)) k = k x1 x2 x3 x4 x5 x6 x7 x8 x9 x10 x11 x12 x13 x14 x15 x16 x17 x18 x19 := rfl
def q_b20 {A1 A2 A3 A4 A5 A6 A7 A8 A9 A10 A11 A12 A13 A14 A15 A16 A17 A18 A19 A20 β : Type} (m : Option (A1 × A2 × A3 × A4 × A5 × A6 × A7 × A8 × A9 × A10 × A11 × A12 × A13 × A14 × A15 × A16 × A17 × A18 × A19 × A20)) (k : A1 → A2 → A3 → A4 → A5 → A6 → A7 → A8 → A9 → A10 → A11 → A12 → A13 → A14 → A15 → A16 → A17 → A18 → A19 → A20 → Option β) : Option β := match m with | none => none | some (x1, x2, x3, x4, x5, x6, x7, x8, x9, x10, x11, x12, x13, x14, x15, x16, x17, x18, x19, x20) => k x1 x2 x3 x4 x5 x6 x7 x8 x9 x10 x11 x12 x13 x14 x15 x16 x17 x18 x19 x20
theorem q_b20_e {A1 A2 A3 A4 A5 A6 A7 A8 A9 A10 A11 A12 A13 A14 A15 A16 A17 A18 A19 A20 β : Type} {m : Option (A1 × A2 × A3 × A4 × A5 × A6 × A7 × A8 × A9 × A10 × A11 × A12 × A13 × A14 × A15 × A16 × A17 × A18 × A19 × A20)} {k : A1 → A2 → A3 → A4 → A5 → A6 → A7 → A8 → A9 → A10 → A11 → A12 → A13 → A14 → A15 → A16 → A17 → A18 → A19 → A20 → Option β} {r : β} (h : q_b20 m k = some r) : ∃ (x1 : A1) (x2 : A2) (x3 : A3) (x4 : A4) (x5 : A5) (x6 : A6) (x7 : A7) (x8 : A8) (x9 : A9) (x10 : A10) (x11 : A11) (x12 : A12) (x13 : A13) (x14 : A14) (x15 : A15) (x16 : A16) (x17 : A17) (x18 : A18) (x19 : A19) (x20 : A20), m = some (x1, x2, x3, x4, x5, x6, x7, x8, x9, x10, x11, x12, x13, x14, x15, x16, x17, x18, x19, x20) ∧ k x1 x2 x3 x4 x5 x6 x7 x8 x9 x10 x11 x12 x13 x14 x15 x16 x17 x18 x19 x20 = some r := by
  cases m with
  | none => cases h
  | some v => exact ⟨v.1, v.2.1, v.2.2.1, v.2.2.2.1, v.2.2.2.2.1, v.2.2.2.2.2.1, v.2.2.2.2.2.2.1, v.2.2.2.2.2.2.2.1, v.2.2.2.2.2.2.2.2.1, v.2.2.2.2.2.2.2.2.2.1, v.2.2.2.2.2.2.2.2.2.2.1, v.2.2.2.2.2.2.2.2.2.2.2.1, v.2.2.2.2.2.2.2.2.2.2.2.2.1, v.2.2.2.2.2.2.2.2.2.2.2.2.2.1, v.2.2.2.2.2.2.2.2.2.2.2.2.2.2.1, v.2.2.2.2.2.2.2.2.2.2.2.2.2.2.2.1, v.2.2.2.2.2.2.2.2.2.2.2.2.2.2.2.2.1, v.2.2.2.2.2.2.2.2.2.2.2.2.2.2.2.2.2.1, v.2.2.2.2.2.2.2.2.2.2.2.2.2.2.2.2.2.2.1, v.2.2.2.2.2.2.2.2.2.2.2.2.2.2.2.2.2.2.2, rfl, h⟩
theorem q_b20_s {A1 A2 A3 A4 A5 A6 A7 A8 A9 A10 A11 A12 A13 A14 A15 A16 A17 A18 A19 A20 β : Type} {k : A1 → A2 → A3 → A4 → A5 → A6 → A7 → A8 → A9 → A10 → A11 → A12 → A13 → A14 → A15 → A16 → A17 → A18 → A19 → A20 → Option β} (x1 : A1) (x2 : A2) (x3 : A3) (x4 : A4) (x5 : A5) (x6 : A6) (x7 : A7) (x8 : A8) (x9 : A9) (x10 : A10) (x11 : A11) (x12 : A12) (x13 : A13) (x14 : A14) (x15 : A15) (x16 : A16) (x17 : A17) (x18 : A18) (x19 : A19) (x20 : A20) : q_b20 (some (x1, x2, x3, x4, x5, x6, x7, x8, x9, x10, x11, x12, x13, x14, x15, x16, x17, x18, x19, x20)) k = k x1 x2 x3 x4 x5 x6 x7 x8 x9 x10 x11 x12 x13 x14 x15 x16 x17 x18 x19 x20 := rfl
def q_b21 {A1 A2 A3 A4 A5 A6 A7 A8 A9 A10 A11 A12 A13 A14 A15 A16 A17 A18 A19 A20 A21 β : Type} (m : Option (A1 × A2 × A3 × A4 × A5 × A6 × A7 × A8 × A9 × A10 × A11 × A12 × A13 × A14 × A15 × A16 × A17 × A18 × A19 × A20 × A21)) (k : A1 → A2 → A3 → A4 → A5 → A6 → A7 → A8 → A9 → A10 → A11 → A12 → A13 → A14 → A15 → A16 → A17 → A18 → A19 → A20 → A21 → Option β) : Option β := match m with | none => none | some (x1, x2, x3, x4, x5, x6, x7, x8, x9, x10, x11, x12, x13, x14, x15, x16, x17, x18, x19, x20, x21) => k x1 x2 x3 x4 x5 x6 x7 x8 x9 x10 x11 x12 x13 x14 x15 x16 x17 x18 x19 x20 x21
theorem q_b21_e {A1 A2 A3 A4 A5 A6 A7 A8 A9 A10 A11 A12 A13 A14 A15 A16 A17 A18 A19 A20 A21 β : Type} {m : Option (A1 × A2 × A3 × A4 × A5 × A6 × A7 × A8 × A9 × A10 × A11 × A12 × A13 × A14 × A15 × A16 × A17 × A18 × A19 × A20 × A21)} {k : A1 → A2 → A3 → A4 → A5 → A6 → A7 → A8 → A9 → A10 → A11 → A12 → A13 → A14 → A15 → A16 → A17 → A18 → A19 → A20 → A21 → Option β} {r : β} (h : q_b21 m k = some r) : ∃ (x1 : A1) (x2 : A2) (x3 : A3) (x4 : A4) (x5 : A5) (x6 : A6) (x7 : A7) (x8 : A8) (x9 : A9) (x10 : A10) (x11 : A11) (x12 : A12) (x13 : A13) (x14 : A14) (x15 : A15) (x16 : A16) (x17 : A17) (x18 : A18) (x19 : A19) (x20 : A20) (x21 : A21), m = some (x1, x2, x3, x4, x5, x6, x7, x8, x9, x10, x11, x12, x13, x14, x15, x16, x17, x18, x19, x20, x21) ∧ k x1 x2 x3 x4 x5 x6 x7 x8 x9 x10 x11 x12 x13 x14 x15 x16 x17 x18 x19 x20 x21 = some r := by
  cases m with
  | none => cases h
  | some v => exact ⟨v.1, v.2.1, v.2.2.1, v.2.2.2.1, v.2.2.2.2.1, v.2.2.2.2.2.1, v.2.2.2.2.2.2.1, v.2.2.2.2.2.2.2.1, v.2.2.2.2.2.2.2.2.1, v.2.2.2.2.2.2.2.2.2.1, v.2.2.2.2.2.2.2.2.2.2.1, v.2.2.2.2.2.2.2.2.2.2.2.1, v.2.2.2.2.2.2.2.2.2.2.2.2.1, v.2.2.2.2.2.2.2.2.2.2.2.2.2.1, v.2.2.2.2.2.2.2.2.2.2.2.2.2.2.1, v.2.2.2.2.2.2.2.2.2.2.2.2.2.2.2.1, v.2.2.2.2.2.2.2.2.2.2.2.2.2.2.2.2.1, v.2.2.2.2.2.2.2.2.2.2.2.2.2.2.2.2.2.1, v.2.2.2.2.2.2.2.2.2.2.2.2.2.2.2.2.2.2.1, v.2.2.2.2.2.2.2.2.2.2.2.2.2.2.2.2.2.2.2.1, v.2.2.2.2.2.2.2.2.2.2.2.2.2.2.2.2.2.2.2.2, rfl, h⟩
theorem q_b21_s {A1 A2 A3 A4 A5 A6 A7 A8 A9 A10 A11 A12 A13 A14 A15 A16 A17 A18 A19 A20 A21 β : Type} {k : A1 → A2 → A3 → A4 → A5 → A6 → A7 → A8 → A9 → A10 → A11 → A12 → A13 → A14 → A15 → A16 → A17 → A18 → A19 → A20 → A21 → Option β} (x1 : A1) (x2 : A2) (x3 : A3) (x4 : A4) (x5 : A5) (x6 : A6) (x7 : A7) (x8 : A8) (x9 : A9) (x10 : A10) (x11 : A11) (x12 : A12) (x13 : A13) (x14 : A14) (x15 : A15) (x16 : A16) (x17 : A17) (x18 : A18) (x19 : A19) (x20 : A20) (x21 : A21) : q_b21 (some (x1, x2, x3, x4, x5, x6, x7, x8, x9, x10, x11, x12, x13, x14, x15, x16, x17, x18, x19, x20, x21)) k = k x1 x2 x3 x4 x5 x6 x7 x8 x9 x10 x11 x12 x13 x14 x15 x16 x17 x18 x19 x20 x21 := rfl
def q_b22 {A1 A2 A3 A4 A5 A6 A7 A8 A9 A10 A11 A12 A13 A14 A15 A16 A17 A18 A19 A20 A21 A22 β : Type} (m : Option (A1 × A2 × A3 × A4 × A5 × A6 × A7 × A8 × A9 × A10 × A11 × A12 × A13 × A14 × A15 × A16 × A17 × A18 × A19 × A20 × A21 × A22)) (k : A1 → A2 → A3 → A4 → A5 → A6 → A7 → A8 → A9 → A10 → A11 → A12 → A13 → A14 → A15 → A16 → A17 → A18 → A19 → A20 → A21 → A22 → Option β) : Option β := match m with | none => none | some (x1, x2, x3, x4, x5, x6, x7, x8, x9, x10, x11, x12, x13, x14, x15, x16, x17, x18, x19, x20, x21, x22) => k x1 x2 x3 x4 x5 x6 x7 x8 x9 x10 x11 x12 x13 x14 x15 x16 x17 x18 x19 x20 x21 x22
theorem q_b22_e {A1 A2 A3 A4 A5 A6 A7 A8 A9 A10 A11 A12 A13 A14 A15 A16 A17 A18 A19 A20 A21 A22 β : Type} {m : Option (A1 × A2 × A3 × A4 × A5 × A6 × A7 × A8 × A9 × A10 × A11 × A12 × A13 × A14 × A15 × A16 × A17 × A18 × A19 × A20 × A21 × A22)} {k : A1 → A2 → A3 → A4 → A5 → A6 → A7 → A8 → A9 → A10 → A11 → A12 → A13 → A14 → A15 → A16 → A17 → A18 → A19 → A20 → A21 → A22 → Option β} {r : β} (h : q_b22 m k = some r) : ∃ (x1 : A1) (x2 : A2) (x3 : A3) (x4 : A4) (x5 : A5) (x6 : A6) (x7 : A7) (x8 : A8) (x9 : A9) (x10 : A10) (x11 : A11) (x12 : A12) (x13 : A13) (x14 : A14) (x15 : A15) (x16 : A16) (x17 : A17) (x18 : A18) (x19 : A19) (x20 : A20) (x21 : A21) (x22 : A22), m = some (x1, x2, x3, x4, x5, x6, x7, x8, x9, x10, x11, x12, x13, x14, x15, x16, x17, x18, x19, x20, x21, x22) ∧ k x1 x2 x3 x4 x5 x6 x7 x8 x9 x10 x11 x12 x13 x14 x15 x16 x17 x18 x19 x20 x21 x22 = some r := by
  cases m with
  | none => cases h
  | some v => exact ⟨v.1, v.2.1, v.2.2.1, v.2.2.2.1, v.2.2.2.2.1, v.2.2.2.2.2.1, v.2.2.2.2.2.2.1, v.2.2.2.2.2.2.2.1, v.2.2.2.2.2.2.2.2.1, v.2.2.2.2.2.2.2.2.2.1, v.2.2.2.2.2.2.2.2.2.2.1, v.2.2.2.2.2.2.2.2.2.2.2.1, v.2.2.2.2.2.2.2.2.2.2.2.2.1, v.2.2.2.2.2.2.2.2.2.2.2.2.2.1, v.2.2.2.2.2.2.2.2.2.2.2.2.2.2.1, v.2.2.2.2.2.2.2.2.2.2.2.2.2.2.2.1, v.2.2.2.2.2.2.2.2.2.2.2.2.2.2.2.2.1, v.2.2.2.2.2.2.2.2.2.2.2.2.2.2.2.2.2.1, v.2.2.2.2.2.2.2.2.2.2.2.2.2.2.2.2.2.2.1, v.2.2.2.2.2.2.2.2.2.2.2.2.2.2.2.2.2.2.2.1, v.2.2.2.2.2.2.2.2.2.2.2.2.2.2.2.2.2.2.2.2.1, v.2.2.2.2.2.2.2.2.2.2.2.2.2.2.2.2.2.2.2.2.2, rfl, h⟩
theorem q_b22_s {A1 A2 A3 A4 A5 A6 A7 A8 A9 A10 A11 A12 A13 A14 A15 A16 A17 A18 A19 A20 A21 A22 β : Type} {k : A1 → A2 → A3 → A4 → A5 → A6 → A7 → A8 → A9 → A10 → A11 → A12 → A13 → A14 → A15 → A16 → A17 → A18 → A19 → A20 → A21 → A22 → Option β} (x1 : A1) (x2 : A2) (x3 : A3) (x4 : A4) (x5 : A5) (x6 : A6) (x7 : A7) (x8 : A8) (x9 : A9) (x10 : A10) (x11 : A11) (x12 : A12) (x13 : A13) (x14 : A14) (x15 : A15) (x16 : A16) (x17 : A17) (x18 : A18) (x19 : A19) (x20 : A20) (x21 : A21) (x22 : A22) : q_b22 (some (x1, x2, x3, x4, x5, x6, x7, x8, x9, x10, x11, x12, x13, x14, x15, x16, x17, x18, x19, x20, x21, x22)) k = k x1 x2 x3 x4 x5 x6 x7 x8 x9 x10 x11 x12 x13 x14 x15 x16 x17 x18 x19 x20 x21 x22 := rfl
def q_b23 {A1 A2 A3 A4 A5 A6 A7 A8 A9 A10 A11 A12 A13 A14 A15 A16 A17 A18 A19 A20 A21 A22 A23 β : Type} (m : Option (A1 × A2 × A3 × A4 × A5 × A6 × A7 × A8 × A9 × A10 × A11 × A12 × A13 × A14 × A15 × A16 × A17 × A18 × A19 × A20 × A21 × A22 × A23)) (k : A1 → A2 → A3 → A4 → A5 → A6 → A7 → A8 → A9 → A10 → A11 → A12 → A13 → A14 → A15 → A16 → A17 → A18 → A19 → A20 → A21 → A22 → A23 → Option β) : Option β := match m with | none => none | some (x1, x2, x3, x4, x5, x6, x7, x8, x9, x10, x11, x12, x13, x14, x15, x16, x17, x18, x19, x20, x21, x22, x23) => k x1 x2 x3 x4 x5 x6 x7 x8 x9 x10 x11 x12 x13 x14 x15 x16 x17 x18 x19 x20 x21 x22 x23
theorem q_b23_e {A1 A2 A3 A4 A5 A6 A7 A8 A9 A10 A11 A12 A13 A14 A15 A16 A17 A18 A19 A20 A21 A22 A23 β : Type} {m : Option (A1 × A2 × A3 × A4 × A5 × A6 × A7 × A8 × A9 × A10 × A11 × A12 × A13 × A14 × A15 × A16 × A17 × A18 × A19 × A20 × A21 × A22 × A23)} {k : A1 → A2 → A3 → A4 → A5 → A6 → A7 → A8 → A9 → A10 → A11 → A12 → A13 → A14 → A15 → A16 → A17 → A18 → A19 → A20 → A21 → A22 → A23 → Option β} {r : β} (h : q_b23 m k = some r) : ∃ (x1 : A1) (x2 : A2) (x3 : A3) (x4 : A4) (x5 : A5) (x6 : A6) (x7 : A7) (x8 : A8) (x9 : A9) (x10 : A10) (x11 : A11) (x12 : A12) (x13 : A13) (x14 : A14) (x15 : A15) (x16 : A16) (x17 : A17) (x18 : A18) (x19 : A19) (x20 : A20) (x21 : A21) (x22 : A22) (x23 : A23), m = some (x1, x2, x3, x4, x5, x6, x7, x8, x9, x10, x11, x12, x13, x14, x15, x16, x17, x18, x19, x20, x21, x22, x23) ∧ k x1 x2 x3 x4 x5 x6 x7 x8 x9 x10 x11 x12 x13 x14 x15 x16 x17 x18 x19 x20 x21 x22 x23 = some r := by
  cases m with
  | none => cases h
  | some v => exact ⟨v.1, v.2.1, v.2.2.1, v.2.2.2.1, v.2.2.2.2.1, v.2.2.2.2.2.1, v.2.2.2.2.2.2.1, v.2.2.2.2.2.2.2.1, v.2.2.2.2.2.2.2.2.1, v.2.2.2.2.2.2.2.2.2.1, v.2.2.2.2.2.2.2.2.2.2.1, v.2.2.2.2.2.2.2.2.2.2.2.1, v.2.2.2.2.2.2.2.2.2.2.2.2.1, v.2.2.2.2.2.2.2.2.2.2.2.2.2.1, v.2.2.2.2.2.2.2.2.2.2.2.2.2.2.1, v.2.2.2.2.2.2.2.2.2.2.2.2.2.2.2.1, v.2.2.2.2.2.2.2.2.2.2.2.2.2.2.2.2.1, v.2.2.2.2.2.2.2.2.2.2.2.2.2.2.2.2.2.1, v.2.2.2.2.2.2.2.2.2.2.2.2.2.2.2.2.2.2.1, v.2.2.2.2.2.2.2.2.2.2.2.2.2.2.2.2.2.2.2.1, v.2.2.2.2.2.2.2.2.2.2.2.2.2.2.2.2.2.2.2.2.1, v.2.2.2.2.2.2.2.2.2.2.2.2.2.2.2.2.2.2.2.2.2.1, v.2.2.2.2.2.2.2.2.2.2.2.2.2.2.2.2.2.2.2.2.2.2, rfl, h⟩
theorem q_b23_s {A1 A2 A3 A4 A5 A6 A7 A8 A9 A10 A11 A12 A13 A14 A15 A16 A17 A18 A19 A20 A21 A22 A23 β : Type} {k : A1 → A2 → A3 → A4 → A5 → A6 → A7 → A8 → A9 → A10 → A11 → A12 → A13 → A14 → A15 → A16 → A17 → A18 → A19 → A20 → A21 → A22 → A23 → Option β} (x1 : A1) (x2 : A2) (x3 : A3) (x4 : A4) (x5 : A5) (x6 : A6) (x7 : A7) (x8 : A8) (x9 : A9) (x10 : A10) (x11 : A11) (x12 : A12) (x13 : A13) (x14 : A14) (x15 : A15) (x16 : A16) (x17 : A17) (x18 : A18) (x19 : A19) (x20 : A20) (x21 : A21) (x22 : A22) (x23 : A23) : q_b23 (some (x1, x2, x3, x4, x5, x6, x7, x8, x9, x10, x11, x12, x13, x14, x15, x16, x17, x18, x19, x20, x21, x22, x23)) k = k x1 x2 x3 x4 x5 x6 x7 x8 x9 x10 x11 x12 x13 x14 x15 x16 x17 x18 x19 x20 x21 x22 x23 := rfl
def q_b24 {A1 A2 A3 A4 A5 A6 A7 A8 A9 A10 A11 A12 A13 A14 A15 A16 A17 A18 A19 A20 A21 A22 A23 A24 β : Type} (m : Option (A1 × A2 × A3 × A4 × A5 × A6 × A7 × A8 × A9 × A10 × A11 × A12 × A13 × A14 × A15 × A16 × A17 × A18 × A19 × A20 × A21 × A22 × A23 × A24)) (k : A1 → A2 → A3 → A4 → A5 → A6 → A7 → A8 → A9 → A10 → A11 → A12 → A13 → A14 → A15 → A16 → A17 → A18 → A19 → A20 → A21 → A22 → A23 → A24 → Option β) : Option β := match m with | none => none | some (x1, x2, x3, x4, x5, x6, x7, x8, x9, x10, x11, x12, x13, x14, x15, x16, x17, x18, x19, x20, x21, x22, x23, x24) => k x1 x2 x3 x4 x5 x6 x7 x8 x9 x10 x11 x12 x13 x14 x15 x16 x17 x18 x19 x20 x21 x22 x23 x24
theorem q_b24_e {A1 A2 A3 A4 A5 A6 A7 A8 A9 A10 A11 A12 A13 A14 A15 A16 A17 A18 A19 A20 A21 A22 A23 A24 β : Type} {m : Option (A1 × A2 × A3 × A4 × A5 × A6 × A7 × A8 × A9 × A10 × A11 × A12 × A13 × A14 × A15 × A16 × A17 × A18 × A19 × A20 × A21 × A22 × A23 × A24)} {k : A1 → A2 → A3 → A4 → A5 → A6 → A7 → A8 → A9 → A10 → A11 → A12 → A13 → A14 → A15 → A16 → A17 → A18 → A19 → A20 → A21 → A22 → A23 → A24 → Option β} {r : β} (h : q_b24 m k = some r) : ∃ (x1 : A1) (x2 : A2) (x3 : A3) (x4 : A4) (x5 : A5) (x6 : A6) (x7 : A7) (x8 : A8) (x9 : A9) (x10 : A10) (x11 : A11) (x12 : A12) (x13 : A13) (x14 : A14) (x15 : A15) (x16 : A16) (x17 : A17) (x18 : A18) (x19 : A19) (x20 : A20) (x21 : A21) (x22 : A22) (x23 : A23) (x24 : A24), m = some (x1, x2, x3, x4, x5, x6, x7, x8, x9, x10, x11, x12, x13, x14, x15, x16, x17, x18, x19, x20, x21, x22, x23, x24) ∧ k x1 x2 x3 x4 x5 x6 x7 x8 x9 x10 x11 x12 x13 x14 x15 x16 x17 x18 x19 x20 x21 x22 x23 x24 = some r := by
  cases m with
  | none => cases h
  | some v => exact ⟨v.1, v.2.1, v.2.2.1, v.2.2.2.1, v.2.2.2.2.1, v.2.2.2.2.2.1, v.2.2.2.2.2.2.1, v.2.2.2.2.2.2.2.1, v.2.2.2.2.2.2.2.2.1, v.2.2.2.2.2.2.2.2.2.1, v.2.2.2.2.2.2.2.2.2.2.1, v.2.2.2.2.2.2.2.2.2.2.2.1, v.2.2.2.2.2.2.2.2.2.2.2.2.1, v.2.2.2.2.2.2.2.2.2.2.2.2.2.1, v.2.2.2.2.2.2.2.2.2.2.2.2.2.2.1, v.2.2.2.2.2.2.2.2.2.2.2.2.2.2.2.1, v.2.2.2.2.2.2.2.2.2.2.2.2.2.2.2.2.1, v.2.2.2.2.2.2.2.2.2.2.2.2.2.2.2.2.2.1, v.2.2.2.2.2.2.2.2.2.2.2.2.2.2.2.2.2.2.1, v.2.2.2.2.2.2.2.2.2.2.2.2.2.2.2.2.2.2.2.1, v.2.2.2.2.2.2.2.2.2.2.2.2.2.2.2.2.2.2.2.2.1, v.2.2.2.2.2.2.2.2.2.2.2.2.2.2.2.2.2.2.2.2.2.1, v.2.2.2.2.2.2.2.2.2.2.2.2.2.2.2.2.2.2.2.2.2.2.1, v.2.2.2.2.2.2.2.2.2.2.2.2.2.2.2.2.2.2.2.2.2.2.2, rfl, h⟩
theorem q_b24_s {A1 A2 A3 A4 A5 A6 A7 A8 A9 A10 A11 A12 A13 A14 A15 A16 A17 A18 A19 A20 A21 A22 A23 A24 β : Type} {k : A1 → A2 → A3 → A4 → A5 → A6 → A7 → A8 → A9 → A10 → A11 → A12 → A13 → A14 → A15 → A16 → A17 → A18 → A19 → A20 → A21 → A22 → A23 → A24 → Option β} (x1 : A1) (x2 : A2) (x3 : A3) (x4 : A4) (x5 : A5) (x6 : A6) (x7 : A7) (x8 : A8) (x9 : A9) (x10 : A10) (x11 : A11) (x12 : A12) (x13 : A13) (x14 : A14) (x15 : A15) (x16 : A16) (x17 : A17) (x18 : A18) (x19 : A19) (x20 : A20) (x21 : A21) (x22 : A22) (x23 : A23) (x24 : A24) : q_b24 (some (x1, x2, x3, x4, x5, x6, x7, x8, x9, x10, x11, x12, x13, x14, x15, x16, x17, x18, x19, x20, x21, x22, x23, x24)) k = k x1 x2 x3 x4 x5 x6 x7 x8 x9 x10 x11 x12 x13 x14 x15 x16 x17 x18 x19 x20 x21 x22 x23 x24 := rfl
theorem q_inj2 {A1 A2 : Type} {x1 y1 : A1} {x2 y2 : A2} (h : (x1, x2) = (y1, y2)) : x1 = y1 ∧ x2 = y2 := by
  have h1 := (Prod.mk.inj h).2
  exact ⟨(Prod.mk.inj h).1, h1⟩
theorem q_inj3 {A1 A2 A3 : Type} {x1 y1 : A1} {x2 y2 : A2} {x3 y3 : A3} (h : (x1, x2, x3) = (y1, y2, y3)) : x1 = y1 ∧ x2 = y2 ∧ x3 = y3 := by
  have h1 := (Prod.mk.inj h).2; have h2 := (Prod.mk.inj h1).2
  exact ⟨(Prod.mk.inj h).1, (Prod.mk.inj h1).1, h2⟩
theorem q_inj4 {A1 A2 A3 A4 : Type} {x1 y1 : A1} {x2 y2 : A2} {x3 y3 : A3} {x4 y4 : A4} (h : (x1, x2, x3, x4) = (y1, y2, y3, y4)) : x1 = y1 ∧ x2 = y2 ∧ x3 = y3 ∧ x4 = y4 := by
  have h1 := (Prod.mk.inj h).2; have h2 := (Prod.mk.inj h1).2; have h3 := (Prod.mk.inj h2).2
  exact ⟨(Prod.mk.inj h).1, (Prod.mk.inj h1).1, (Prod.mk.inj h2).1, h3⟩
theorem q_inj5 {A1 A2 A3 A4 A5 : Type} {x1 y1 : A1} {x2 y2 : A2} {x3 y3 : A3} {x4 y4 : A4} {x5 y5 : A5} (h : (x1, x2, x3, x4, x5) = (y1, y2, y3, y4, y5)) : x1 = y1 ∧ x2 = y2 ∧ x3 = y3 ∧ x4 = y4 ∧ x5 = y5 := by
  have h1 := (Prod.mk.inj h).2; have h2 := (Prod.mk.inj h1).2; have h3 := (Prod.mk.inj h2).2; have h4 := (Prod.mk.inj h3).2
  exact ⟨(Prod.mk.inj h).1, (Prod.mk.inj h1).1, (Prod.mk.inj h2).1, (Prod.mk.inj h3).1, h4⟩
theorem q_inj6 {A1 A2 A3 A4 A5 A6 : Type} {x1 y1 : A1} {x2 y2 : A2} {x3 y3 : A3} {x4 y4 : A4} {x5 y5 : A5} {x6 y6 : A6} (h : (x1, x2, x3, x4, x5, x6) = (y1, y2, y3, y4, y5, y6)) : x1 = y1 ∧ x2 = y2 ∧ x3 = y3 ∧ x4 = y4 ∧ x5 = y5 ∧ x6 = y6 := by
  have h1 := (Prod.mk.inj h).2; have h2 := (Prod.mk.inj h1).2; have h3 := (Prod.mk.inj h2).2; have h4 := (Prod.mk.inj h3).2; have h5 := (Prod.mk.inj h4).2
  exact ⟨(Prod.mk.inj h).1, (Prod.mk.inj h1).1, (Prod.mk.inj h2).1, (Prod.mk.inj h3).1, (Prod.mk.inj h4).1, h5⟩
theorem q_inj7 {A1 A2 A3 A4 A5 A6 A7 : Type} {x1 y1 : A1} {x2 y2 : A2} {x3 y3 : A3} {x4 y4 : A4} {x5 y5 : A5} {x6 y6 : A6} {x7 y7 : A7} (h : (x1, x2, x3, x4, x5, x6, x7) = (y1, y2, y3, y4, y5, y6, y7)) : x1 = y1 ∧ x2 = y2 ∧ x3 = y3 ∧ x4 = y4 ∧ x5 = y5 ∧ x6 = y6 ∧ x7 = y7 := by
  have h1 := (Prod.mk.inj h).2; have h2 := (Prod.mk.inj h1).2; have h3 := (Prod.mk.inj h2).2; have h4 := (Prod.mk.inj h3).2; have h5 := (Prod.mk.inj h4).2; have h6 := (Prod.mk.inj h5).2
  exact ⟨(Prod.mk.inj h).1, (Prod.mk.inj h1).1, (Prod.mk.inj h2).1, (Prod.mk.inj h3).1, (Prod.mk.inj h4).1, (Prod.mk.inj h5).1, h6⟩
theorem q_inj8 {A1 A2 A3 A4 A5 A6 A7 A8 : Type} {x1 y1 : A1} {x2 y2 : A2} {x3 y3 : A3} {x4 y4 : A4} {x5 y5 : A5} {x6 y6 : A6} {x7 y7 : A7} {x8 y8 : A8} (h : (x1, x2, x3, x4, x5, x6, x7, x8) = (y1, y2, y3, y4, y5, y6, y7, y8)) : x1 = y1 ∧ x2 = y2 ∧ x3 = y3 ∧ x4 = y4 ∧ x5 = y5 ∧ x6 = y6 ∧ x7 = y7 ∧ x8 = y8 := by
  have h1 := (Prod.mk.inj h).2; have h2 := (Prod.mk.inj h1).2; have h3 := (Prod.mk.inj h2).2; have h4 := (Prod.mk.inj h3).2; have h5 := (Prod.mk.inj h4).2; have h6 := (Prod.mk.inj h5).2; have h7 := (Prod.mk.inj h6).2
  exact ⟨(Prod.mk.inj h).1, (Prod.mk.inj h1).1, (Prod.mk.inj h2).1, (Prod.mk.inj h3).1, (Prod.mk.inj h4).1, (Prod.mk.inj h5).1, (Prod.mk.inj h6).1, h7⟩
theorem q_inj9 {A1 A2 A3 A4 A5 A6 A7 A8 A9 : Type} {x1 y1 : A1} {x2 y2 : A2} {x3 y3 : A3} {x4 y4 : A4} {x5 y5 : A5} {x6 y6 : A6} {x7 y7 : A7} {x8 y8 : A8} {x9 y9 : A9} (h : (x1, x2, x3, x4, x5, x6, x7, x8, x9) = (y1, y2, y3, y4, y5, y6, y7, y8, y9)) : x1 = y1 ∧ x2 = y2 ∧ x3 = y3 ∧ x4 = y4 ∧ x5 = y5 ∧ x6 = y6 ∧ x7 = y7 ∧ x8 = y8 ∧ x9 = y9 := by
  have h1 := (Prod.mk.inj h).2; have h2 := (Prod.mk.inj h1).2; have h3 := (Prod.mk.inj h2).2; have h4 := (Prod.mk.inj h3).2; have h5 := (Prod.mk.inj h4).2; have h6 := (Prod.mk.inj h5).2; have h7 := (Prod.mk.inj h6).2; have h8 := (Prod.mk.inj h7).2
  exact ⟨(Prod.mk.inj h).1, (Prod.mk.inj h1).1, (Prod.mk.inj h2).1, (Prod.mk.inj h3).1, (Prod.mk.inj h4).1, (Prod.mk.inj h5).1, (Prod.mk.inj h6).1, (Prod.mk.inj h7).1, h8⟩
theorem q_inj10 {A1 A2 A3 A4 A5 A6 A7 A8 A9 A10 : Type} {x1 y1 : A1} {x2 y2 : A2} {x3 y3 : A3} {x4 y4 : A4} {x5 y5 : A5} {x6 y6 : A6} {x7 y7 : A7} {x8 y8 : A8} {x9 y9 : A9} {x10 y10 : A10} (h : (x1, x2, x3, x4, x5, x6, x7, x8, x9, x10) = (y1, y2, y3, y4, y5, y6, y7, y8, y9, y10)) : x1 = y1 ∧ x2 = y2 ∧ x3 = y3 ∧ x4 = y4 ∧ x5 = y5 ∧ x6 = y6 ∧ x7 = y7 ∧ x8 = y8 ∧ x9 = y9 ∧ x10 = y10 := by
  have h1 := (Prod.mk.inj h).2; have h2 := (Prod.mk.inj h1).2; have h3 := (Prod.mk.inj h2).2; have h4 := (Prod.mk.inj h3).2; have h5 := (Prod.mk.inj h4).2; have h6 := (Prod.mk.inj h5).2; have h7 := (Prod.mk.inj h6).2; have h8 := (Prod.mk.inj h7).2; have h9 := (Prod.mk.inj h8).2
  exact ⟨(Prod.mk.inj h).1, (Prod.mk.inj h1).1, (Prod.mk.inj h2).1, (Prod.mk.inj h3).1, (Prod.mk.inj h4).1, (Prod.mk.inj h5).1, (Prod.mk.inj h6).1, (Prod.mk.inj h7).1, (Prod.mk.inj h8).1, h9⟩
theorem q_inj11 {A1 A2 A3 A4 A5 A6 A7 A8 A9 A10 A11 : Type} {x1 y1 : A1} {x2 y2 : A2} {x3 y3 : A3} {x4 y4 : A4} {x5 y5 : A5} {x6 y6 : A6} {x7 y7 : A7} {x8 y8 : A8} {x9 y9 : A9} {x10 y10 : A10} {x11 y11 : A11} (h : (x1, x2, x3, x4, x5, x6, x7, x8, x9, x10, x11) = (y1, y2, y3, y4, y5, y6, y7, y8, y9, y10, y11)) : x1 = y1 ∧ x2 = y2 ∧ x3 = y3 ∧ x4 = y4 ∧ x5 = y5 ∧ x6 = y6 ∧ x7 = y7 ∧ x8 = y8 ∧ x9 = y9 ∧ x10 = y10 ∧ x11 = y11 := by
  have h1 := (Prod.mk.inj h).2; have h2 := (Prod.mk.inj h1).2; have h3 := (Prod.mk.inj h2).2; have h4 := (Prod.mk.inj h3).2; have h5 := (Prod.mk.inj h4).2; have h6 := (Prod.mk.inj h5).2; have h7 := (Prod.mk.inj h6).2; have h8 := (Prod.mk.inj h7).2; have h9 := (Prod.mk.inj h8).2; have h10 := (Prod.mk.inj h9).2
  exact ⟨(Prod.mk.inj h).1, (Prod.mk.inj h1).1, (Prod.mk.inj h2).1, (Prod.mk.inj h3).1, (Prod.mk.inj h4).1, (Prod.mk.inj h5).1, (Prod.mk.inj h6).1, (Prod.mk.inj h7).1, (Prod.mk.inj h8).1, (Prod.mk.inj h9).1, h10⟩
theorem q_inj12 {A1 A2 A3 A4 A5 A6 A7 A8 A9 A10 A11 A12 : Type} {x1 y1 : A1} {x2 y2 : A2} {x3 y3 : A3} {x4 y4 : A4} {x5 y5 : A5} {x6 y6 : A6} {x7 y7 : A7} {x8 y8 : A8} {x9 y9 : A9} {x10 y10 : A10} {x11 y11 : A11} {x12 y12 : A12} (h : (x1, x2, x3, x4, x5, x6, x7, x8, x9, x10, x11, x12) = (y1, y2, y3, y4, y5, y6, y7, y8, y9, y10, y11, y12)) : x1 = y1 ∧ x2 = y2 ∧ x3 = y3 ∧ x4 = y4 ∧ x5 = y5 ∧ x6 = y6 ∧ x7 = y7 ∧ x8 = y8 ∧ x9 = y9 ∧ x10 = y10 ∧ x11 = y11 ∧ x12 = y12 := by
  have h1 := (Prod.mk.inj h).2; have h2 := (Prod.mk.inj h1).2; have h3 := (Prod.mk.inj h2).2; have h4 := (Prod.mk.inj h3).2; have h5 := (Prod.mk.inj h4).2; have h6 := (Prod.mk.inj h5).2; have h7 := (Prod.mk.inj h6).2; have h8 := (Prod.mk.inj h7).2; have h9 := (Prod.mk.inj h8).2; have h10 := (Prod.mk.inj h9).2; have h11 := (Prod.mk.inj h10).2
  exact ⟨(Prod.mk.inj h).1, (Prod.mk.inj h1).1, (Prod.mk.inj h2).1, (Prod.mk.inj h3).1, (Prod.mk.inj h4).1, (Prod.mk.inj h5).1, (Prod.mk.inj h6).1, (Prod.mk.inj h7).1, (Prod.mk.inj h8).1, (Prod.mk.inj h9).1, (Prod.mk.inj h10).1, h11⟩
theorem q_inj13 {A1 A2 A3 A4 A5 A6 A7 A8 A9 A10 A11 A12 A13 : Type} {x1 y1 : A1} {x2 y2 : A2} {x3 y3 : A3} {x4 y4 : A4} {x5 y5 : A5} {x6 y6 : A6} {x7 y7 : A7} {x8 y8 : A8} {x9 y9 : A9} {x10 y10 : A10} {x11 y11 : A11} {x12 y12 : A12} {x13 y13 : A13} (h : (x1, x2, x3, x4, x5, x6, x7, x8, x9, x10, x11, x12, x13) = (y1, y2, y3, y4, y5, y6, y7, y8, y9, y10, y11, y12, y13)) : x1 = y1 ∧ x2 = y2 ∧ x3 = y3 ∧ x4 = y4 ∧ x5 = y5 ∧ x6 = y6 ∧ x7 = y7 ∧ x8 = y8 ∧ x9 = y9 ∧ x10 = y10 ∧ x11 = y11 ∧ x12 = y12 ∧ x13 = y13 := by
  have h1 := (Prod.mk.inj h).2; have h2 := (Prod.mk.inj h1).2; have h3 := (Prod.mk.inj h2).2; have h4 := (Prod.mk.inj h3).2; have h5 := (Prod.mk.inj h4).2; have h6 := (Prod.mk.inj h5).2; have h7 := (Prod.mk.inj h6).2; have h8 := (Prod.mk.inj h7).2; have h9 := (Prod.mk.inj h8).2; have h10 := (Prod.mk.inj h9).2; have h11 := (Prod.mk.inj h10).2; have h12 := (Prod.mk.inj h11).2
  exact ⟨(Prod.mk.inj h).1, (Prod.mk.inj h1).1, (Prod.mk.inj h2).1, (Prod.mk.inj h3).1, (Prod.mk.inj h4).1, (Prod.mk.inj h5).1, (Prod.mk.inj h6).1, (Prod.mk.inj h7).1, (Prod.mk.inj h8).1, (Prod.mk.inj h9).1, (Prod.mk.inj h10).1, (Prod.mk.inj h11).1, h12⟩
theorem q_inj14 {A1 A2 A3 A4 A5 A6 A7 A8 A9 A10 A11 A12 A13 A14 : Type} {x1 y1 : A1} {x2 y2 : A2} {x3 y3 : A3} {x4 y4 : A4} {x5 y5 : A5} {x6 y6 : A6} {x7 y7 : A7} {x8 y8 : A8} {x9 y9 : A9} {x10 y10 : A10} {x11 y11 : A11} {x12 y12 : A12} {x13 y13 : A13} {x14 y14 : A14} (h : (x1, x2, x3, x4, x5, x6, x7, x8, x9, x10, x11, x12, x13, x14) = (y1, y2, y3, y4, y5, y6, y7, y8, y9, y10, y11, y12, y13, y14)) : x1 = y1 ∧ x2 = y2 ∧ x3 = y3 ∧ x4 = y4 ∧ x5 = y5 ∧ x6 = y6 ∧ x7 = y7 ∧ x8 = y8 ∧ x9 = y9 ∧ x10 = y10 ∧ x11 = y11 ∧ x12 = y12 ∧ x13 = y13 ∧ x14 = y14 := by
  have h1 := (Prod.mk.inj h).2; have h2 := (Prod.mk.inj h1).2; have h3 := (Prod.mk.inj h2).2; have h4 := (Prod.mk.inj h3).2; have h5 := (Prod.mk.inj h4).2; have h6 := (Prod.mk.inj h5).2; have h7 := (Prod.mk.inj h6).2; have h8 := (Prod.mk.inj h7).2; have h9 := (Prod.mk.inj h8).2; have h10 := (Prod.mk.inj h9).2; have h11 := (Prod.mk.inj h10).2; have h12 := (Prod.mk.inj h11).2; have h13 := (Prod.mk.inj h12).2
  exact ⟨(Prod.mk.inj h).1, (Prod.mk.inj h1).1, (Prod.mk.inj h2).1, (Prod.mk.inj h3).1, (Prod.mk.inj h4).1, (Prod.mk.inj h5).1, (Prod.mk.inj h6).1, (Prod.mk.inj h7).1, (Prod.mk.inj h8).1, (Prod.mk.inj h9).1, (Prod.mk.inj h10).1, (Prod.mk.inj h11).1, (Prod.mk.inj h12).1, h13⟩
theorem q_inj15 {A1 A2 A3 A4 A5 A6 A7 A8 A9 A10 A11 A12 A13 A14 A15 : Type} {x1 y1 : A1} {x2 y2 : A2} {x3 y3 : A3} {x4 y4 : A4} {x5 y5 : A5} {x6 y6 : A6} {x7 y7 : A7} {x8 y8 : A8} {x9 y9 : A9} {x10 y10 : A10} {x11 y11 : A11} {x12 y12 : A12} {x13 y13 : A13} {x14 y14 : A14} {x15 y15 : A15} (h : (x1, x2, x3, x4, x5, x6, x7, x8, x9, x10, x11, x12, x13, x14, x15) = (y1, y2, y3, y4, y5, y6, y7, y8, y9, y10, y11, y12, y13, y14, y15)) : x1 = y1 ∧ x2 = y2 ∧ x3 = y3 ∧ x4 = y4 ∧ x5 = y5 ∧ x6 = y6 ∧ x7 = y7 ∧ x8 = y8 ∧ x9 = y9 ∧ x10 = y10 ∧ x11 = y11 ∧ x12 = y12 ∧ x13 = y13 ∧ x14 = y14 ∧ x15 = y15 := by
  have h1 := (Prod.mk.inj h).2; have h2 := (Prod.mk.inj h1).2; have h3 := (Prod.mk.inj h2).2; have h4 := (Prod.mk.inj h3).2; have h5 := (Prod.mk.inj h4).2; have h6 := (Prod.mk.inj h5).2; have h7 := (Prod.mk.inj h6).2; have h8 := (Prod.mk.inj h7).2; have h9 := (Prod.mk.inj h8).2; have h10 := (Prod.mk.inj h9).2; have h11 := (Prod.mk.inj h10).2; have h12 := (Prod.mk.inj h11).2; have h13 := (Prod.mk.inj h12).2; have h14 := (Prod.mk.inj h13).2
  exact ⟨(Prod.mk.inj h).1, (Prod.mk.inj h1).1, (Prod.mk.inj h2).1, (Prod.mk.inj h3).1, (Prod.mk.inj h4).1, (Prod.mk.inj h5).1, (Prod.mk.inj h6).1, (Prod.mk.inj h7).1, (Prod.mk.inj h8).1, (Prod.mk.inj h9).1, (Prod.mk.inj h10).1, (Prod.mk.inj h11).1, (Prod.mk.inj h12).1, (Prod.mk.inj h13).1, h14⟩
theorem q_inj16 {A1 A2 A3 A4 A5 A6 A7 A8 A9 A10 A11 A12 A13 A14 A15 A16 : Type} {x1 y1 : A1} {x2 y2 : A2} {x3 y3 : A3} {x4 y4 : A4} {x5 y5 : A5} {x6 y6 : A6} {x7 y7 : A7} {x8 y8 : A8} {x9 y9 : A9} {x10 y10 : A10} {x11 y11 : A11} {x12 y12 : A12} {x13 y13 : A13} {x14 y14 : A14} {x15 y15 : A15} {x16 y16 : A16} (h : (x1, x2, x3, x4, x5, x6, x7, x8, x9, x10, x11, x12, x13, x14, x15, x16) = (y1, y2, y3, y4, y5, y6, y7, y8, y9, y10, y11, y12, y13, y14, y15, y16)) : x1 = y1 ∧ x2 = y2 ∧ x3 = y3 ∧ x4 = y4 ∧ x5 = y5 ∧ x6 = y6 ∧ x7 = y7 ∧ x8 = y8 ∧ x9 = y9 ∧ x10 = y10 ∧ x11 = y11 ∧ x12 = y12 ∧ x13 = y13 ∧ x14 = y14 ∧ x15 = y15 ∧ x16 = y16 := by
  have h1 := (Prod.mk.inj h).2; have h2 := (Prod.mk.inj h1).2; have h3 := (Prod.mk.inj h2).2; have h4 := (Prod.mk.inj h3).2; have h5 := (Prod.mk.inj h4).2; have h6 := (Prod.mk.inj h5).2; have h7 := (Prod.mk.inj h6).2; have h8 := (Prod.mk.inj h7).2; have h9 := (Prod.mk.inj h8).2; have h10 := (Prod.mk.inj h9).2; have h11 := (Prod.mk.inj h10).2; have h12 := (Prod.mk.inj h11).2; have h13 := (Prod.mk.inj h12).2; have h14 := (Prod.mk.inj h13).2; have h15 := (Prod.mk.inj h14).2
  exact ⟨(Prod.mk.inj h).1, (Prod.mk.inj h1).1, (Prod.mk.inj h2).1, (Prod.mk.inj h3).1, (Prod.mk.inj h4).1, (Prod.mk.inj h5).1, (Prod.mk.inj h6).1, (Prod.mk.inj h7).1, (Prod.mk.inj h8).1, (Prod.mk.inj h9).1, (Prod.mk.inj h10).1, (Prod.mk.inj h11).1, (Prod.mk.inj h12).1, (Prod.mk.inj h13).1, (Prod.mk.inj h14).1, h15⟩
theorem q_inj17 {A1 A2 A3 A4 A5 A6 A7 A8 A9 A10 A11 A12 A13 A14 A15 A16 A17 : Type} {x1 y1 : A1} {x2 y2 : A2} {x3 y3 : A3} {x4 y4 : A4} {x5 y5 : A5} {x6 y6 : A6} {x7 y7 : A7} {x8 y8 : A8} {x9 y9 : A9} {x10 y10 : A10} {x11 y11 : A11} {x12 y12 : A12} {x13 y13 : A13} {x14 y14 : A14} {x15 y15 : A15} {x16 y16 : A16} {x17 y17 : A17} (h : (x1, x2, x3, x4, x5, x6, x7, x8, x9, x10, x11, x12, x13, x14, x15, x16, x17) = (y1, y2, y3, y4, y5, y6, y7, y8, y9, y10, y11, y12, y13, y14, y15, y16, y17)) : x1 = y1 ∧ x2 = y2 ∧ x3 = y3 ∧ x4 = y4 ∧ x5 = y5 ∧ x6 = y6 ∧ x7 = y7 ∧ x8 = y8 ∧ x9 = y9 ∧ x10 = y10 ∧ x11 = y11 ∧ x12 = y12 ∧ x13 = y13 ∧ x14 = y14 ∧ x15 = y15 ∧ x16 = y16 ∧ x17 = y17 := by
  have h1 := (Prod.mk.inj h).2; have h2 := (Prod.mk.inj h1).2; have h3 := (Prod.mk.inj h2).2; have h4 := (Prod.mk.inj h3).2; have h5 := (Prod.mk.inj h4).2; have h6 := (Prod.mk.inj h5).2; have h7 := (Prod.mk.inj h6).2; have h8 := (Prod.mk.inj h7).2; have h9 := (Prod.mk.inj h8).2; have h10 := (Prod.mk.inj h9).2; have h11 := (Prod.mk.inj h10).2; have h12 := (Prod.mk.inj h11).2; have h13 := (Prod.mk.inj h12).2; have h14 := (Prod.mk.inj h13).2; have h15 := (Prod.mk.inj h14).2; have h16 := (Prod.mk.inj h15).2
  exact ⟨(Prod.mk.inj h).1, (Prod.mk.inj h1).1, (Prod.mk.inj h2).1, (Prod.mk.inj h3).1, (Prod.mk.inj h4).1, (Prod.mk.inj h5).1, (Prod.mk.inj h6).1, (Prod.mk.inj h7).1, (Prod.mk.inj h8).1, (Prod.mk.inj h9).1, (Prod.mk.inj h10).1, (Prod.mk.inj h11).1, (Prod.mk.inj h12).1, (Prod.mk.inj h13).1, (Prod.mk.inj h14).1, (Prod.mk.inj h15).1, h16⟩
theorem q_inj18 {A1 A2 A3 A4 A5 A6 A7 A8 A9 A10 A11 A12 A13 A14 A15 A16 A17 A18 : Type} {x1 y1 : A1} {x2 y2 : A2} {x3 y3 : A3} {x4 y4 : A4} {x5 y5 : A5} {x6 y6 : A6} {x7 y7 : A7} {x8 y8 : A8} {x9 y9 : A9} {x10 y10 : A10} {x11 y11 : A11} {x12 y12 : A12} {x13 y13 : A13} {x14 y14 : A14} {x15 y15 : A15} {x16 y16 : A16} {x17 y17 : A17} {x18 y18 : A18} (h : (x1, x2, x3, x4, x5, x6, x7, x8, x9, x10, x11, x12, x13, x14, x15, x16, x17, x18) = (y1, y2, y3, y4, y5, y6, y7, y8, y9, y10, y11, y12, y13, y14, y15, y16, y17, y18)) : x1 = y1 ∧ x2 = y2 ∧ x3 = y3 ∧ x4 = y4 ∧ x5 = y5 ∧ x6 = y6 ∧ x7 = y7 ∧ x8 = y8 ∧ x9 = y9 ∧ x10 = y10 ∧ x11 = y11 ∧ x12 = y12 ∧ x13 = y13 ∧ x14 = y14 ∧ x15 = y15 ∧ x16 = y16 ∧ x17 = y17 ∧ x18 = y18 := by
  have h1 := (Prod.mk.inj h).2; have h2 := (Prod.mk.inj h1).2; have h3 := (Prod.mk.inj h2).2; have h4 := (Prod.mk.inj h3).2; have h5 := (Prod.mk.inj h4).2; have h6 := (Prod.mk.inj h5).2; have h7 := (Prod.mk.inj h6).2; have h8 := (Prod.mk.inj h7).2; have h9 := (Prod.mk.inj h8).2; have h10 := (Prod.mk.inj h9).2; have h11 := (Prod.mk.inj h10).2; have h12 := (Prod.mk.inj h11).2; have h13 := (Prod.mk.inj h12).2; have h14 := (Prod.mk.inj h13).2; have h15 := (Prod.mk.inj h14).2; have h16 := (Prod.mk.inj h15).2; have h17 := (Prod.mk.inj h16).2
  exact ⟨(Prod.mk.inj h).1, (Prod.mk.inj h1).1, (Prod.mk.inj h2).1, (Prod.mk.inj h3).1, (Prod.mk.inj h4).1, (Prod.mk.inj h5).1, (Prod.mk.inj h6).1, (Prod.mk.inj h7).1, (Prod.mk.inj h8).1, (Prod.mk.inj h9).1, (Prod.mk.inj h10).1, (Prod.mk.inj h11).1, (Prod.mk.inj h12).1, (Prod.mk.inj h13).1, (Prod.mk.inj h14).1, (Prod.mk.inj h15).1, (Prod.mk.inj h16).1, h17⟩
theorem q_inj19 {A1 A2 A3 A4 A5 A6 A7 A8 A9 A10 A11 A12 A13 A14 A15 A16 A17 A18 A19 : Type} {x1 y1 : A1} {x2 y2 : A2} {x3 y3 : A3} {x4 y4 : A4} {x5 y5 : A5} {x6 y6 : A6} {x7 y7 : A7} {x8 y8 : A8} {x9 y9 : A9} {x10 y10 : A10} {x11 y11 : A11} {x12 y12 : A12} {x13 y13 : A13} {x14 y14 : A14} {x15 y15 : A15} {x16 y16 : A16} {x17 y17 : A17} {x18 y18 : A18} {x19 y19 : A19} (h : (x1, x2, x3, x4, x5, x6, x7, x8, x9, x10, x11, x12, x13, x14, x15, x16, x17, x18, x19) = (y1, y2, y3, y4, y5, y6, y7, y8, y9, y10, y11, y12, y13, y14, y15, y16, y17, y18, y19)) : x1 = y1 ∧ x2 = y2 ∧ x3 = y3 ∧ x4 = y4 ∧ x5 = y5 ∧ x6 = y6 ∧ x7 = y7 ∧ x8 = y8 ∧ x9 = y9 ∧ x10 = y10 ∧ x11 = y11 ∧ x12 = y12 ∧ x13 = y13 ∧ x14 = y14 ∧ x15 = y15 ∧ x16 = y16 ∧ x17 = y17 ∧ x18 = y18 ∧ x19 = y19 := by
  have h1 := (Prod.mk.inj h).2; have h2 := (Prod.mk.inj h1).2; have h3 := (Prod.mk.inj h2).2; have h4 := (Prod.mk.inj h3).2; have h5 := (Prod.mk.inj h4).2; have h6 := (Prod.mk.inj h5).2; have h7 := (Prod.mk.inj h6).2; have h8 := (Prod.mk.inj h7).2; have h9 := (Prod.mk.inj h8).2; have h10 := (Prod.mk.inj h9).2; have h11 := (Prod.mk.inj h10).2; have h12 := (Prod.mk.inj h11).2; have h13 := (Prod.mk.inj h12).2; have h14 := (Prod.mk.inj h13).2; have h15 := (Prod.mk.inj h14).2; have h16 := (Prod.mk.inj h15).2; have h17 := (Prod.mk.inj h16).2; have h18 := (Prod.mk.inj h17).2
  exact ⟨(Prod.mk.inj h).1, (Prod.mk.inj h1).1, (Prod.mk.inj h2).1, (Prod.mk.inj h3).1, (Prod.mk.inj h4).1, (Prod.mk.inj h5).1, (Prod.mk.inj h6).1, (Prod.mk.inj h7).1, (Prod.mk.inj h8).1, (Prod.mk.inj h9).1, (Prod.mk.inj h10).1, (Prod.mk.inj h11).1, (Prod.mk.inj h12).1, (Prod.mk.inj h13).1, (Prod.mk.inj h14).1, (Prod.mk.inj h15).1, (Prod.mk.inj h16).1, (Prod.mk.inj h17).1, h18⟩
theorem q_inj20 {A1 A2 A3 A4 A5 A6 A7 A8 A9 A10 A11 A12 A13 A14 A15 A16 A17 A18 A19 A20 : Type} {x1 y1 : A1} {x2 y2 : A2} {x3 y3 : A3} {x4 y4 : A4} {x5 y5 : A5} {x6 y6 : A6} {x7 y7 : A7} {x8 y8 : A8} {x9 y9 : A9} {x10 y10 : A10} {x11 y11 : A11} {x12 y12 : A12} {x13 y13 : A13} {x14 y14 : A14} {x15 y15 : A15} {x16 y16 : A16} {x17 y17 : A17} {x18 y18 : A18} {x19 y19 : A19} {x20 y20 : A20} (h : (x1, x2, x3, x4, x5, x6, x7, x8, x9, x10, x11, x12, x13, x14, x15, x16, x17, x18, x19, x20) = (y1, y2, y3, y4, y5, y6, y7, y8, y9, y10, y11, y12, y13, y14, y15, y16, y17, y18, y19, y20)) : x1 = y1 ∧ x2 = y2 ∧ x3 = y3 ∧ x4 = y4 ∧ x5 = y5 ∧ x6 = y6 ∧ x7 = y7 ∧ x8 = y8 ∧ x9 = y9 ∧ x10 = y10 ∧ x11 = y11 ∧ x12 = y12 ∧ x13 = y13 ∧ x14 = y14 ∧ x15 = y15 ∧ x16 = y16 ∧ x17 = y17 ∧ x18 = y18 ∧ x19 = y19 ∧ x20 = y20 := by
  have h1 := (Prod.mk.inj h).2; have h2 := (Prod.mk.inj h1).2; have h3 := (Prod.mk.inj h2).2; have h4 := (Prod.mk.inj h3).2; have h5 := (Prod.mk.inj h4).2; have h6 := (Prod.mk.inj h5).2; have h7 := (Prod.mk.inj h6).2; have h8 := (Prod.mk.inj h7).2; have h9 := (Prod.mk.inj h8).2; have h10 := (Prod.mk.inj h9).2; have h11 := (Prod.mk.inj h10).2; have h12 := (Prod.mk.inj h11).2; have h13 := (Prod.mk.inj h12).2; have h14 := (Prod.mk.inj h13).2; have h15 := (Prod.mk.inj h14).2; have h16 := (Prod.mk.inj h15).2; have h17 := (Prod.mk.inj h16).2; have h18 := (Prod.mk.inj h17).2; have h19 := (Prod.mk.inj h18).2
  exact ⟨(Prod.mk.inj h).1, (Prod.mk.inj h1).1, (Prod.mk.inj h2).1, (Prod.mk.inj h3).1, (Prod.mk.inj h4).1, (Prod.mk.inj h5).1, (Prod.mk.inj h6).1, (Prod.mk.inj h7).1, (Prod.mk.inj h8).1, (Prod.mk.inj h9).1, (Prod.mk.inj h10).1, (Prod.mk.inj h11).1, (Prod.mk.inj h12).1, (Prod.mk.inj h13).1, (Prod.mk.inj h14).1, (Prod.mk.inj h15).1, (Prod.mk.inj h16).1, (Prod.mk.inj h17).1, (Prod.mk.inj h18).1, h19⟩
theorem q_inj21 {A1 A2 A3 A4 A5 A6 A7 A8 A9 A10 A11 A12 A13 A14 A15 A16 A17 A18 A19 A20 A21 : Type} {x1 y1 : A1} {x2 y2 : A2} {x3 y3 : A3} {x4 y4 : A4} {x5 y5 : A5} {x6 y6 : A6} {x7 y7 : A7} {x8 y8 : A8} {x9 y9 : A9} {x10 y10 : A10} {x11 y11 : A11} {x12 y12 : A12} {x13 y13 : A13} {x14 y14 : A14} {x15 y15 : A15} {x16 y16 : A16} {x17 y17 : A17} {x18 y18 : A18} {x19 y19 : A19} {x20 y20 : A20} {x21 y21 : A21} (h : (x1, x2, x3, x4, x5, x6, x7, x8, x9, x10, x11, x12, x13, x14, x15, x16, x17, x18, x19, x20, x21) = (y1, y2, y3, y4, y5, y6, y7, y8, y9, y10, y11, y12, y13, y14, y15, y16, y17, y18, y19, y20, y21)) : x1 = y1 ∧ x2 = y2 ∧ x3 = y3 ∧ x4 = y4 ∧ x5 = y5 ∧ x6 = y6 ∧ x7 = y7 ∧ x8 = y8 ∧ x9 = y9 ∧ x10 = y10 ∧ x11 = y11 ∧ x12 = y12 ∧ x13 = y13 ∧ x14 = y14 ∧ x15 = y15 ∧ x16 = y16 ∧ x17 = y17 ∧ x18 = y18 ∧ x19 = y19 ∧ x20 = y20 ∧ x21 = y21 := by
  have h1 := (Prod.mk.inj h).2; have h2 := (Prod.mk.inj h1).2; have h3 := (Prod.mk.inj h2).2; have h4 := (Prod.mk.inj h3).2; have h5 := (Prod.mk.inj h4).2; have h6 := (Prod.mk.inj h5).2; have h7 := (Prod.mk.inj h6).2; have h8 := (Prod.mk.inj h7).2; have h9 := (Prod.mk.inj h8).2; have h10 := (Prod.mk.inj h9).2; have h11 := (Prod.mk.inj h10).2; have h12 := (Prod.mk.inj h11).2; have h13 := (Prod.mk.inj h12).2; have h14 := (Prod.mk.inj h13).2; have h15 := (Prod.mk.inj h14).2; have h16 := (Prod.mk.inj h15).2; have h17 := (Prod.mk.inj h16).2; have h18 := (Prod.mk.inj h17).2; have h19 := (Prod.mk.inj h18).2; have h20 := (Prod.mk.inj h19).2
  exact ⟨(Prod.mk.inj h).1, (Prod.mk.inj h1).1, (Prod.mk.inj h2).1, (Prod.mk.inj h3).1, (Prod.mk.inj h4).1, (Prod.mk.inj h5).1, (Prod.mk.inj h6).1, (Prod.mk.inj h7).1, (Prod.mk.inj h8).1, (Prod.mk.inj h9).1, (Prod.mk.inj h10).1, (Prod.mk.inj h11).1, (Prod.mk.inj h12).1, (Prod.mk.inj h13).1, (Prod.mk.inj h14).1, (Prod.mk.inj h15).1, (Prod.mk.inj h16).1, (Prod.mk.inj h17).1, (Prod.mk.inj h18).1, (Prod.mk.inj h19).1, h20⟩
theorem q_inj22 {A1 A2 A3 A4 A5 A6 A7 A8 A9 A10 A11 A12 A13 A14 A15 A16 A17 A18 A19 A20 A21 A22 : Type} {x1 y1 : A1} {x2 y2 : A2} {x3 y3 : A3} {x4 y4 : A4} {x5 y5 : A5} {x6 y6 : A6} {x7 y7 : A7} {x8 y8 : A8} {x9 y9 : A9} {x10 y10 : A10} {x11 y11 : A11} {x12 y12 : A12} {x13 y13 : A13} {x14 y14 : A14} {x15 y15 : A15} {x16 y16 : A16} {x17 y17 : A17} {x18 y18 : A18} {x19 y19 : A19} {x20 y20 : A20} {x21 y21 : A21} {x22 y22 : A22} (h : (x1, x2, x3, x4, x5, x6, x7, x8, x9, x10, x11, x12, x13, x14, x15, x16, x17, x18, x19, x20, x21, x22) = (y1, y2, y3, y4, y5, y6, y7, y8, y9, y10, y11, y12, y13, y14, y15, y16, y17, y18, y19, y20, y21, y22)) : x1 = y1 ∧ x2 = y2 ∧ x3 = y3 ∧ x4 = y4 ∧ x5 = y5 ∧ x6 = y6 ∧ x7 = y7 ∧ x8 = y8 ∧ x9 = y9 ∧ x10 = y10 ∧ x11 = y11 ∧ x12 = y12 ∧ x13 = y13 ∧ x14 = y14 ∧ x15 = y15 ∧ x16 = y16 ∧ x17 = y17 ∧ x18 = y18 ∧ x19 = y19 ∧ x20 = y20 ∧ x21 = y21 ∧ x22 = y22 := by
  have h1 := (Prod.mk.inj h).2; have h2 := (Prod.mk.inj h1).2; have h3 := (Prod.mk.inj h2).2; have h4 := (Prod.mk.inj h3).2; have h5 := (Prod.mk.inj h4).2; have h6 := (Prod.mk.inj h5).2; have h7 := (Prod.mk.inj h6).2; have h8 := (Prod.mk.inj h7).2; have h9 := (Prod.mk.inj h8).2; have h10 := (Prod.mk.inj h9).2; have h11 := (Prod.mk.inj h10).2; have h12 := (Prod.mk.inj h11).2; have h13 := (Prod.mk.inj h12).2; have h14 := (Prod.mk.inj h13).2; have h15 := (Prod.mk.inj h14).2; have h16 := (Prod.mk.inj h15).2; have h17 := (Prod.mk.inj h16).2; have h18 := (Prod.mk.inj h17).2; have h19 := (Prod.mk.inj h18).2; have h20 := (Prod.mk.inj h19).2; have h21 := (Prod.mk.inj h20).2
  exact ⟨(Prod.mk.inj h).1, (Prod.mk.inj h1).1, (Prod.mk.inj h2).1, (Prod.mk.inj h3).1, (Prod.mk.inj h4).1, (Prod.mk.inj h5).1, (Prod.mk.inj h6).1, (Prod.mk.inj h7).1, (Prod.mk.inj h8).1, (Prod.mk.inj h9).1, (Prod.mk.inj h10).1, (Prod.mk.inj h11).1, (Prod.mk.inj h12).1, (Prod.mk.inj h13).1, (Prod.mk.inj h14).1, (Prod.mk.inj h15).1, (Prod.mk.inj h16).1, (Prod.mk.inj h17).1, (Prod.mk.inj h18).1, (Prod.mk.inj h19).1, (Prod.mk.inj h20).1, h21⟩
theorem q_inj23 {A1 A2 A3 A4 A5 A6 A7 A8 A9 A10 A11 A12 A13 A14 A15 A16 A17 A18 A19 A20 A21 A22 A23 : Type} {x1 y1 : A1} {x2 y2 : A2} {x3 y3 : A3} {x4 y4 : A4} {x5 y5 : A5} {x6 y6 : A6} {x7 y7 : A7} {x8 y8 : A8} {x9 y9 : A9} {x10 y10 : A10} {x11 y11 : A11} {x12 y12 : A12} {x13 y13 : A13} {x14 y14 : A14} {x15 y15 : A15} {x16 y16 : A16} {x17 y17 : A17} {x18 y18 : A18} {x19 y19 : A19} {x20 y20 : A20} {x21 y21 : A21} {x22 y22 : A22} {x23 y23 : A23} (h : (x1, x2, x3, x4, x5, x6, x7, x8, x9, x10, x11, x12, x13, x14, x15, x16, x17, x18, x19, x20, x21, x22, x23) = (y1, y2, y3, y4, y5, y6, y7, y8, y9, y10, y11, y12, y13, y14, y15, y16, y17, y18, y19, y20, y21, y22, y23)) : x1 = y1 ∧ x2 = y2 ∧ x3 = y3 ∧ x4 = y4 ∧ x5 = y5 ∧ x6 = y6 ∧ x7 = y7 ∧ x8 = y8 ∧ x9 = y9 ∧ x10 = y10 ∧ x11 = y11 ∧ x12 = y12 ∧ x13 = y13 ∧ x14 = y14 ∧ x15 = y15 ∧ x16 = y16 ∧ x17 = y17 ∧ x18 = y18 ∧ x19 = y19 ∧ x20 = y20 ∧ x21 = y21 ∧ x22 = y22 ∧ x23 = y23 := by
  have h1 := (Prod.mk.inj h).2; have h2 := (Prod.mk.inj h1).2; have h3 := (Prod.mk.inj h2).2; have h4 := (Prod.mk.inj h3).2; have h5 := (Prod.mk.inj h4).2; have h6 := (Prod.mk.inj h5).2; have h7 := (Prod.mk.inj h6).2; have h8 := (Prod.mk.inj h7).2; have h9 := (Prod.mk.inj h8).2; have h10 := (Prod.mk.inj h9).2; have h11 := (Prod.mk.inj h10).2; have h12 := (Prod.mk.inj h11).2; have h13 := (Prod.mk.inj h12).2; have h14 := (Prod.mk.inj h13).2; have h15 := (Prod.mk.inj h14).2; have h16 := (Prod.mk.inj h15).2; have h17 := (Prod.mk.inj h16).2; have h18 := (Prod.mk.inj h17).2; have h19 := (Prod.mk.inj h18).2; have h20 := (Prod.mk.inj h19).2; have h21 := (Prod.mk.inj h20).2; have h22 := (Prod.mk.inj h21).2
  exact ⟨(Prod.mk.inj h).1, (Prod.mk.inj h1).1, (Prod.mk.inj h2).1, (Prod.mk.inj h3).1, (Prod.mk.inj h4).1, (Prod.mk.inj h5).1, (Prod.mk.inj h6).1, (Prod.mk.inj h7).1, (Prod.mk.inj h8).1, (Prod.mk.inj h9).1, (Prod.mk.inj h10).1, (Prod.mk.inj h11).1, (Prod.mk.inj h12).1, (Prod.mk.inj h13).1, (Prod.mk.inj h14).1, (Prod.mk.inj h15).1, (Prod.mk.inj h16).1, (Prod.mk.inj h17).1, (Prod.mk.inj h18).1, (Prod.mk.inj h19).1, (Prod.mk.inj h20).1, (Prod.mk.inj h21).1, h22⟩
theorem q_inj24 {A1 A2 A3 A4 A5 A6 A7 A8 A9 A10 A11 A12 A13 A14 A15 A16 A17 A18 A19 A20 A21 A22 A23 A24 : Type} {x1 y1 : A1} {x2 y2 : A2} {x3 y3 : A3} {x4 y4 : A4} {x5 y5 : A5} {x6 y6 : A6} {x7 y7 : A7} {x8 y8 : A8} {x9 y9 : A9} {x10 y10 : A10} {x11 y11 : A11} {x12 y12 : A12} {x13 y13 : A13} {x14 y14 : A14} {x15 y15 : A15} {x16 y16 : A16} {x17 y17 : A17} {x18 y18 : A18} {x19 y19 : A19} {x20 y20 : A20} {x21 y21 : A21} {x22 y22 : A22} {x23 y23 : A23} {x24 y24 : A24} (h : (x1, x2, x3, x4, x5, x6, x7, x8, x9, x10, x11, x12, x13, x14, x15, x16, x17, x18, x19, x20, x21, x22, x23, x24) = (y1, y2, y3, y4, y5, y6, y7, y8, y9, y10, y11, y12, y13, y14, y15, y16, y17, y18, y19, y20, y21, y22, y23, y24)) : x1 = y1 ∧ x2 = y2 ∧ x3 = y3 ∧ x4 = y4 ∧ x5 = y5 ∧ x6 = y6 ∧ x7 = y7 ∧ x8 = y8 ∧ x9 = y9 ∧ x10 = y10 ∧ x11 = y11 ∧ x12 = y12 ∧ x13 = y13 ∧ x14 = y14 ∧ x15 = y15 ∧ x16 = y16 ∧ x17 = y17 ∧ x18 = y18 ∧ x19 = y19 ∧ x20 = y20 ∧ x21 = y21 ∧ x22 = y22 ∧ x23 = y23 ∧ x24 = y24 := by
  have h1 := (Prod.mk.inj h).2; have h2 := (Prod.mk.inj h1).2; have h3 := (Prod.mk.inj h2).2; have h4 := (Prod.mk.inj h3).2; have h5 := (Prod.mk.inj h4).2; have h6 := (Prod.mk.inj h5).2; have h7 := (Prod.mk.inj h6).2; have h8 := (Prod.mk.inj h7).2; have h9 := (Prod.mk.inj h8).2; have h10 := (Prod.mk.inj h9).2; have h11 := (Prod.mk.inj h10).2; have h12 := (Prod.mk.inj h11).2; have h13 := (Prod.mk.inj h12).2; have h14 := (Prod.mk.inj h13).2; have h15 := (Prod.mk.inj h14).2; have h16 := (Prod.mk.inj h15).2; have h17 := (Prod.mk.inj h16).2; have h18 := (Prod.mk.inj h17).2; have h19 := (Prod.mk.inj h18).2; have h20 := (Prod.mk.inj h19).2; have h21 := (Prod.mk.inj h20).2; have h22 := (Prod.mk.inj h21).2; have h23 := (Prod.mk.inj h22).2
  exact ⟨(Prod.mk.inj h).1, (Prod.mk.inj h1).1, (Prod.mk.inj h2).1, (Prod.mk.inj h3).1, (Prod.mk.inj h4).1, (Prod.mk.inj h5).1, (Prod.mk.inj h6).1, (Prod.mk.inj h7).1, (Prod.mk.inj h8).1, (Prod.mk.inj h9).1, (Prod.mk.inj h10).1, (Prod.mk.inj h11).1, (Prod.mk.inj h12).1, (Prod.mk.inj h13).1, (Prod.mk.inj h14).1, (Prod.mk.inj h15).1, (Prod.mk.inj h16).1, (Prod.mk.inj h17).1, (Prod.mk.inj h18).1, (Prod.mk.inj h19).1, (Prod.mk.inj h20).1, (Prod.mk.inj h21).1, (Prod.mk.inj h22).1, h23⟩
def q_s0 { β : Type} (m : Option ((Unit) ⊕ β)) (k : Option β) : Option β := match m with | none => none | some (.inl ()) => k  | some (.inr r) => some r
def q_o0 { β : Type} (o : (Unit) ⊕ β) (k : Option β) (r : β) : Prop := match o with | .inl () => k  = some r | .inr r2 => r2 = r
theorem q_s0_e { β : Type} {m : Option ((Unit) ⊕ β)} {k : Option β} {r : β} (h : q_s0 m k = some r) : ∃ o, m = some o ∧ q_o0 o k r := by
  cases m with
  | none => cases h
  | some v =>
    cases v with
    | inl v => exact ⟨.inl v, rfl, h⟩
    | inr v => exact ⟨.inr v, rfl, Option.some.inj h⟩
def q_s1 {A1 β : Type} (m : Option ((A1) ⊕ β)) (k : A1 → Option β) : Option β := match m with | none => none | some (.inl x1) => k x1 | some (.inr r) => some r
def q_o1 {A1 β : Type} (o : (A1) ⊕ β) (k : A1 → Option β) (r : β) : Prop := match o with | .inl x1 => k x1 = some r | .inr r2 => r2 = r
theorem q_s1_e {A1 β : Type} {m : Option ((A1) ⊕ β)} {k : A1 → Option β} {r : β} (h : q_s1 m k = some r) : ∃ o, m = some o ∧ q_o1 o k r := by
  cases m with
  | none => cases h
  | some v =>
    cases v with
    | inl v => exact ⟨.inl v, rfl, h⟩
    | inr v => exact ⟨.inr v, rfl, Option.some.inj h⟩
def q_s2 {A1 A2 β : Type} (m : Option ((A1 × A2) ⊕ β)) (k : A1 → A2 → Option β) : Option β := match m with | none => none | some (.inl (x1, x2)) => k x1 x2 | some (.inr r) => some r
def q_o2 {A1 A2 β : Type} (o : (A1 × A2) ⊕ β) (k : A1 → A2 → Option β) (r : β) : Prop := match o with | .inl (x1, x2) => k x1 x2 = some r | .inr r2 => r2 = r
theorem q_s2_e {A1 A2 β : Type} {m : Option ((A1 × A2) ⊕ β)} {k : A1 → A2 → Option β} {r : β} (h : q_s2 m k = some r) : ∃ o, m = some o ∧ q_o2 o k r := by
  cases m with
  | none => cases h
  | some v =>
    cases v with
    | inl v => exact ⟨.inl v, rfl, h⟩
    | inr v => exact ⟨.inr v, rfl, Option.some.inj h⟩
def q_s3 {A1 A2 A3 β : Type} (m : Option ((A1 × A2 × A3) ⊕ β)) (k : A1 → A2 → A3 → Option β) : Option β := match m with | none => none | some (.inl (x1, x2, x3)) => k x1 x2 x3 | some (.inr r) => some r
def q_o3 {A1 A2 A3 β : Type} (o : (A1 × A2 × A3) ⊕ β) (k : A1 → A2 → A3 → Option β) (r : β) : Prop := match o with | .inl (x1, x2, x3) => k x1 x2 x3 = some r | .inr r2 => r2 = r
theorem q_s3_e {A1 A2 A3 β : Type} {m : Option ((A1 × A2 × A3) ⊕ β)} {k : A1 → A2 → A3 → Option β} {r : β} (h : q_s3 m k = some r) : ∃ o, m = some o ∧ q_o3 o k r := by
  cases m with
  | none => cases h
  | some v =>
    cases v with
    | inl v => exact ⟨.inl v, rfl, h⟩
    | inr v => exact ⟨.inr v, rfl, Option.some.inj h⟩
def q_s4 {A1 A2 A3 A4 β : Type} (m : Option ((A1 × A2 × A3 × A4) ⊕ β)) (k : A1 → A2 → A3 → A4 → Option β) : Option β := match m with | none => none | some (.inl (x1, x2, x3, x4)) => k x1 x2 x3 x4 | some (.inr r) => some r
def q_o4 {A1 A2 A3 A4 β : Type} (o : (A1 × A2 × A3 × A4) ⊕ β) (k : A1 → A2 → A3 → A4 → Option β) (r : β) : Prop := match o with | .inl (x1, x2, x3, x4) => k x1 x2 x3 x4 = some r | .inr r2 => r2 = r
theorem q_s4_e {A1 A2 A3 A4 β : Type} {m : Option ((A1 × A2 × A3 × A4) ⊕ β)} {k : A1 → A2 → A3 → A4 → Option β} {r : β} (h : q_s4 m k = some r) : ∃ o, m = some o ∧ q_o4 o k r := by
  cases m with
  | none => cases h
  | some v =>
    cases v with
    | inl v => exact ⟨.inl v, rfl, h⟩
    | inr v => exact ⟨.inr v, rfl, Option.some.inj h⟩
def q_s5 {A1 A2 A3 A4 A5 β : Type} (m : Option ((A1 × A2 × A3 × A4 × A5) ⊕ β)) (k : A1 → A2 → A3 → A4 → A5 → Option β) : Option β := match m with | none => none | some (.inl (x1, x2, x3, x4, x5)) => k x1 x2 x3 x4 x5 | some (.inr r) => some r
def q_o5 {A1 A2 A3 A4 A5 β : Type} (o : (A1 × A2 × A3 × A4 × A5) ⊕ β) (k : A1 → A2 → A3 → A4 → A5 → Option β) (r : β) : Prop := match o with | .inl (x1, x2, x3, x4, x5) => k x1 x2 x3 x4 x5 = some r | .inr r2 => r2 = r
theorem q_s5_e {A1 A2 A3 A4 A5 β : Type} {m : Option ((A1 × A2 × A3 × A4 × A5) ⊕ β)} {k : A1 → A2 → A3 → A4 → A5 → Option β} {r : β} (h : q_s5 m k = some r) : ∃ o, m = some o ∧ q_o5 o k r := by
  cases m with
  | none => cases h
  | some v =>
    cases v with
    | inl v => exact ⟨.inl v, rfl, h⟩
    | inr v => exact ⟨.inr v, rfl, Option.some.inj h⟩
def q_s6 {A1 A2 A3 A4 A5 A6 β : Type} (m : Option ((A1 × A2 × A3 × A4 × A5 × A6) ⊕ β)) (k : A1 → A2 → A3 → A4 → A5 → A6 → Option β) : Option β := match m with | none => none | some (.inl (x1, x2, x3, x4, x5, x6)) => k x1 x2 x3 x4 x5 x6 | some (.inr r) => some r
def q_o6 {A1 A2 A3 A4 A5 A6 β : Type} (o : (A1 × A2 × A3 × A4 × A5 × A6) ⊕ β) (k : A1 → A2 → A3 → A4 → A5 → A6 → Option β) (r : β) : Prop := match o with | .inl (x1, x2, x3, x4, x5, x6) => k x1 x2 x3 x4 x5 x6 = some r | .inr r2 => r2 = r
theorem q_s6_e {A1 A2 A3 A4 A5 A6 β : Type} {m : Option ((A1 × A2 × A3 × A4 × A5 × A6) ⊕ β)} {k : A1 → A2 → A3 → A4 → A5 → A6 → Option β} {r : β} (h : q_s6 m k = some r) : ∃ o, m = some o ∧ q_o6 o k r := by
  cases m with
  | none => cases h
  | some v =>
    cases v with
    | inl v => exact ⟨.inl v, rfl, h⟩
    | inr v => exact ⟨.inr v, rfl, Option.some.inj h⟩
def q_s7 {A1 A2 A3 A4 A5 A6 A7 β : Type} (m : Option ((A1 × A2 × A3 × A4 × A5 × A6 × A7) ⊕ β)) (k : A1 → A2 → A3 → A4 → A5 → A6 → A7 → Option β) : Option β := match m with | none => none | some (.inl (x1, x2, x3, x4, x5, x6, x7)) => k x1 x2 x3 x4 x5 x6 x7 | some (.inr r) => some r
def q_o7 {A1 A2 A3 A4 A5 A6 A7 β : Type} (o : (A1 × A2 × A3 × A4 × A5 × A6 × A7) ⊕ β) (k : A1 → A2 → A3 → A4 → A5 → A6 → A7 → Option β) (r : β) : Prop := match o with | .inl (x1, x2, x3, x4, x5, x6, x7) => k x1 x2 x3 x4 x5 x6 x7 = some r | .inr r2 => r2 = r
theorem q_s7_e {A1 A2 A3 A4 A5 A6 A7 β : Type} {m : Option ((A1 × A2 × A3 × A4 × A5 × A6 × A7) ⊕ β)} {k : A1 → A2 → A3 → A4 → A5 → A6 → A7 → Option β} {r : β} (h : q_s7 m k = some r) : ∃ o, m = some o ∧ q_o7 o k r := by
  cases m with
  | none => cases h
  | some v =>
    cases v with
    | inl v => exact ⟨.inl v, rfl, h⟩
    | inr v => exact ⟨.inr v, rfl, Option.some.inj h⟩
def q_s8 {A1 A2 A3 A4 A5 A6 A7 A8 β : Type} (m : Option ((A1 × A2 × A3 × A4 × A5 × A6 × A7 × A8) ⊕ β)) (k : A1 → A2 → A3 → A4 → A5 → A6 → A7 → A8 → Option β) : Option β := match m with | none => none | some (.inl (x1, x2, x3, x4, x5, x6, x7, x8)) => k x1 x2 x3 x4 x5 x6 x7 x8 | some (.inr r) => some r
def q_o8 {A1 A2 A3 A4 A5 A6 A7 A8 β : Type} (o : (A1 × A2 × A3 × A4 × A5 × A6 × A7 × A8) ⊕ β) (k : A1 → A2 → A3 → A4 → A5 → A6 → A7 → A8 → Option β) (r : β) : Prop := match o with | .inl (x1, x2, x3, x4, x5, x6, x7, x8) => k x1 x2 x3 x4 x5 x6 x7 x8 = some r | .inr r2 => r2 = r
theorem q_s8_e {A1 A2 A3 A4 A5 A6 A7 A8 β : Type} {m : Option ((A1 × A2 × A3 × A4 × A5 × A6 × A7 × A8) ⊕ β)} {k : A1 → A2 → A3 → A4 → A5 → A6 → A7 → A8 → Option β} {r : β} (h : q_s8 m k = some r) : ∃ o, m = some o ∧ q_o8 o k r := by
  cases m with
  | none => cases h
  | some v =>
    cases v with
    | inl v => exact ⟨.inl v, rfl, h⟩
    | inr v => exact ⟨.inr v, rfl, Option.some.inj h⟩
def q_s9 {A1 A2 A3 A4 A5 A6 A7 A8 A9 β : Type} (m : Option ((A1 × A2 × A3 × A4 × A5 × A6 × A7 × A8 × A9) ⊕ β)) (k : A1 → A2 → A3 → A4 → A5 → A6 → A7 → A8 → A9 → Option β) : Option β := match m with | none => none | some (.inl (x1, x2, x3, x4, x5, x6, x7, x8, x9)) => k x1 x2 x3 x4 x5 x6 x7 x8 x9 | some (.inr r) => some r
def q_o9 {A1 A2 A3 A4 A5 A6 A7 A8 A9 β : Type} (o : (A1 × A2 × A3 × A4 × A5 × A6 × A7 × A8 × A9) ⊕ β) (k : A1 → A2 → A3 → A4 → A5 → A6 → A7 → A8 → A9 → Option β) (r : β) : Prop := match o with | .inl (x1, x2, x3, x4, x5, x6, x7, x8, x9) => k x1 x2 x3 x4 x5 x6 x7 x8 x9 = some r | .inr r2 => r2 = r
theorem q_s9_e {A1 A2 A3 A4 A5 A6 A7 A8 A9 β : Type} {m : Option ((A1 × A2 × A3 × A4 × A5 × A6 × A7 × A8 × A9) ⊕ β)} {k : A1 → A2 → A3 → A4 → A5 → A6 → A7 → A8 → A9 → Option β} {r : β} (h : q_s9 m k = some r) : ∃ o, m = some o ∧ q_o9 o k r := by
  cases m with
  | none => cases h
  | some v =>
    cases v with
    | inl v => exact ⟨.inl v, rfl, h⟩
    | inr v => exact ⟨.inr v, rfl, Option.some.inj h⟩
def q_s10 {A1 A2 A3 A4 A5 A6 A7 A8 A9 A10 β : Type} (m : Option ((A1 × A2 × A3 × A4 × A5 × A6 × A7 × A8 × A9 × A10) ⊕ β)) (k : A1 → A2 → A3 → A4 → A5 → A6 → A7 → A8 → A9 → A10 → Option β) : Option β := match m with | none => none | some (.inl (x1, x2, x3, x4, x5, x6, x7, x8, x9, x10)) => k x1 x2 x3 x4 x5 x6 x7 x8 x9 x10 | some (.inr r) => some r
def q_o10 {A1 A2 A3 A4 A5 A6 A7 A8 A9 A10 β : Type} (o : (A1 × A2 × A3 × A4 × A5 × A6 × A7 × A8 × A9 × A10) ⊕ β) (k : A1 → A2 → A3 → A4 → A5 → A6 → A7 → A8 → A9 → A10 → Option β) (r : β) : Prop := match o with | .inl (x1, x2, x3, x4, x5, x6, x7, x8, x9, x10) => k x1 x2 x3 x4 x5 x6 x7 x8 x9 x10 = some r | .inr r2 => r2 = r
theorem q_s10_e {A1 A2 A3 A4 A5 A6 A7 A8 A9 A10 β : Type} {m : Option ((A1 × A2 × A3 × A4 × A5 × A6 × A7 × A8 × A9 × A10) ⊕ β)} {k : A1 → A2 → A3 → A4 → A5 → A6 → A7 → A8 → A9 → A10 → Option β} {r : β} (h : q_s10 m k = some r) : ∃ o, m = some o ∧ q_o10 o k r := by
  cases m with
  | none => cases h
  | some v =>
    cases v with
    | inl v => exact ⟨.inl v, rfl, h⟩
    | inr v => exact ⟨.inr v, rfl, Option.some.inj h⟩
def q_s11 {A1 A2 A3 A4 A5 A6 A7 A8 A9 A10 A11 β : Type} (m : Option ((A1 × A2 × A3 × A4 × A5 × A6 × A7 × A8 × A9 × A10 × A11) ⊕ β)) (k : A1 → A2 → A3 → A4 → A5 → A6 → A7 → A8 → A9 → A10 → A11 → Option β) : Option β := match m with | none => none | some (.inl (x1, x2, x3, x4, x5, x6, x7, x8, x9, x10, x11)) => k x1 x2 x3 x4 x5 x6 x7 x8 x9 x10 x11 | some (.inr r) => some r
def q_o11 {A1 A2 A3 A4 A5 A6 A7 A8 A9 A10 A11 β : Type} (o : (A1 × A2 × A3 × A4 × A5 × A6 × A7 × A8 × A9 × A10 × A11) ⊕ β) (k : A1 → A2 → A3 → A4 → A5 → A6 → A7 → A8 → A9 → A10 → A11 → Option β) (r : β) : Prop := match o with | .inl (x1, x2, x3, x4, x5, x6, x7, x8, x9, x10, x11) => k x1 x2 x3 x4 x5 x6 x7 x8 x9 x10 x11 = some r | .inr r2 => r2 = r
theorem q_s11_e {A1 A2 A3 A4 A5 A6 A7 A8 A9 A10 A11 β : Type} {m : Option ((A1 × A2 × A3 × A4 × A5 × A6 × A7 × A8 × A9 × A10 × A11) ⊕ β)} {k : A1 → A2 → A3 → A4 → A5 → A6 → A7 → A8 → A9 → A10 → A11 → Option β} {r : β} (h : q_s11 m k = some r) : ∃ o, m = some o ∧ q_o11 o k r := by
  cases m with
  | none => cases h
  | some v =>
    cases v with
    | inl v => exact ⟨.inl v, rfl, h⟩
    | inr v => exact ⟨.inr v, rfl, Option.some.inj h⟩
def q_s12 {A1 A2 A3 A4 A5 A6 A7 A8 A9 A10 A11 A12 β : Type} (m : Option ((A1 × A2 × A3 × A4 × A5 × A6 × A7 × A8 × A9 × A10 × A11 × A12) ⊕ β)) (k : A1 → A2 → A3 → A4 → A5 → A6 → A7 → A8 → A9 → A10 → A11 → A12 → Option β) : Option β := match m with | none => none | some (.inl (x1, x2, x3, x4, x5, x6, x7, x8, x9, x10, x11, x12)) => k x1 x2 x3 x4 x5 x6 x7 x8 x9 x10 x11 x12 | some (.inr r) => some r
def q_o12 {A1 A2 A3 A4 A5 A6 A7 A8 A9 A10 A11 A12 β : Type} (o : (A1 × A2 × A3 × A4 × A5 × A6 × A7 × A8 × A9 × A10 × A11 × A12) ⊕ β) (k : A1 → A2 → A3 → A4 → A5 → A6 → A7 → A8 → A9 → A10 → A11 → A12 → Option β) (r : β) : Prop := match o with | .inl (x1, x2, x3, x4, x5, x6, x7, x8, x9, x10, x11, x12) => k x1 x2 x3 x4 x5 x6 x7 x8 x9 x10 x11 x12 = some r | .inr r2 => r2 = r
theorem q_s12_e {A1 A2 A3 A4 A5 A6 A7 A8 A9 A10 A11 A12 β : Type} {m : Option ((A1 × A2 × A3 × A4 × A5 × A6 × A7 × A8 × A9 × A10 × A11 × A12) ⊕ β)} {k : A1 → A2 → A3 → A4 → A5 → A6 → A7 → A8 → A9 → A10 → A11 → A12 → Option β} {r : β} (h : q_s12 m k = some r) : ∃ o, m = some o ∧ q_o12 o k r := by
  cases m with
  | none => cases h
  | some v =>
    cases v with
    | inl v => exact ⟨.inl v, rfl, h⟩
    | inr v => exact ⟨.inr v, rfl, Option.some.inj h⟩
def q_j0 { β γ : Type} (K : Option β) (b : (Option β) → Option γ) : Option γ := b K
theorem q_j0_e { β γ : Type} {K : Option β} {b : (Option β) → Option γ} {r : γ} (h : q_j0 K b = some r) : ∃ K2 : Option β, (K2  = K ) ∧ b K2 = some r := ⟨K, rfl, h⟩
theorem q_s0_k { β : Type} {m : Option ((Unit) ⊕ β)} {k : Option β} {r : β} (h : q_s0 m k = some r) : ∃ (k2 : Option β) (o : (Unit) ⊕ β), (k2  = k ) ∧ m = some o ∧ q_o0 o k2 r := by
  obtain ⟨o, h1, h2⟩ := q_s0_e h
  exact ⟨k, o, rfl, h1, h2⟩
def q_j1 {A1 β γ : Type} (K : A1 → Option β) (b : (A1 → Option β) → Option γ) : Option γ := b K
theorem q_j1_e {A1 β γ : Type} {K : A1 → Option β} {b : (A1 → Option β) → Option γ} {r : γ} (h : q_j1 K b = some r) : ∃ K2 : A1 → Option β, (∀ (x1 : A1), K2 x1 = K x1) ∧ b K2 = some r := ⟨K, fun _ => rfl, h⟩
theorem q_s1_k {A1 β : Type} {m : Option ((A1) ⊕ β)} {k : A1 → Option β} {r : β} (h : q_s1 m k = some r) : ∃ (k2 : A1 → Option β) (o : (A1) ⊕ β), (∀ (x1 : A1), k2 x1 = k x1) ∧ m = some o ∧ q_o1 o k2 r := by
  obtain ⟨o, h1, h2⟩ := q_s1_e h
  exact ⟨k, o, fun _ => rfl, h1, h2⟩
def q_j2 {A1 A2 β γ : Type} (K : A1 → A2 → Option β) (b : (A1 → A2 → Option β) → Option γ) : Option γ := b K
theorem q_j2_e {A1 A2 β γ : Type} {K : A1 → A2 → Option β} {b : (A1 → A2 → Option β) → Option γ} {r : γ} (h : q_j2 K b = some r) : ∃ K2 : A1 → A2 → Option β, (∀ (x1 : A1) (x2 : A2), K2 x1 x2 = K x1 x2) ∧ b K2 = some r := ⟨K, fun _ _ => rfl, h⟩
theorem q_s2_k {A1 A2 β : Type} {m : Option ((A1 × A2) ⊕ β)} {k : A1 → A2 → Option β} {r : β} (h : q_s2 m k = some r) : ∃ (k2 : A1 → A2 → Option β) (o : (A1 × A2) ⊕ β), (∀ (x1 : A1) (x2 : A2), k2 x1 x2 = k x1 x2) ∧ m = some o ∧ q_o2 o k2 r := by
  obtain ⟨o, h1, h2⟩ := q_s2_e h
  exact ⟨k, o, fun _ _ => rfl, h1, h2⟩
def q_j3 {A1 A2 A3 β γ : Type} (K : A1 → A2 → A3 → Option β) (b : (A1 → A2 → A3 → Option β) → Option γ) : Option γ := b K
theorem q_j3_e {A1 A2 A3 β γ : Type} {K : A1 → A2 → A3 → Option β} {b : (A1 → A2 → A3 → Option β) → Option γ} {r : γ} (h : q_j3 K b = some r) : ∃ K2 : A1 → A2 → A3 → Option β, (∀ (x1 : A1) (x2 : A2) (x3 : A3), K2 x1 x2 x3 = K x1 x2 x3) ∧ b K2 = some r := ⟨K, fun _ _ _ => rfl, h⟩
theorem q_s3_k {A1 A2 A3 β : Type} {m : Option ((A1 × A2 × A3) ⊕ β)} {k : A1 → A2 → A3 → Option β} {r : β} (h : q_s3 m k = some r) : ∃ (k2 : A1 → A2 → A3 → Option β) (o : (A1 × A2 × A3) ⊕ β), (∀ (x1 : A1) (x2 : A2) (x3 : A3), k2 x1 x2 x3 = k x1 x2 x3) ∧ m = some o ∧ q_o3 o k2 r := by
  obtain ⟨o, h1, h2⟩ := q_s3_e h
  exact ⟨k, o, fun _ _ _ => rfl, h1, h2⟩
def q_j4 {A1 A2 A3 A4 β γ : Type} (K : A1 → A2 → A3 → A4 → Option β) (b : (A1 → A2 → A3 → A4 → Option β) → Option γ) : Option γ := b K
theorem q_j4_e {A1 A2 A3 A4 β γ : Type} {K : A1 → A2 → A3 → A4 → Option β} {b : (A1 → A2 → A3 → A4 → Option β) → Option γ} {r : γ} (h : q_j4 K b = some r) : ∃ K2 : A1 → A2 → A3 → A4 → Option β, (∀ (x1 : A1) (x2 : A2) (x3 : A3) (x4 : A4), K2 x1 x2 x3 x4 = K x1 x2 x3 x4) ∧ b K2 = some r := ⟨K, fun _ _ _ _ => rfl, h⟩
theorem q_s4_k {A1 A2 A3 A4 β : Type} {m : Option ((A1 × A2 × A3 × A4) ⊕ β)} {k : A1 → A2 → A3 → A4 → Option β} {r : β} (h : q_s4 m k = some r) : ∃ (k2 : A1 → A2 → A3 → A4 → Option β) (o : (A1 × A2 × A3 × A4) ⊕ β), (∀ (x1 : A1) (x2 : A2) (x3 : A3) (x4 : A4), k2 x1 x2 x3 x4 = k x1 x2 x3 x4) ∧ m = some o ∧ q_o4 o k2 r := by
  obtain ⟨o, h1, h2⟩ := q_s4_e h
  exact ⟨k, o, fun _ _ _ _ => rfl, h1, h2⟩
def q_j5 {A1 A2 A3 A4 A5 β γ : Type} (K : A1 → A2 → A3 → A4 → A5 → Option β) (b : (A1 → A2 → A3 → A4 → A5 → Option β) → Option γ) : Option γ := b K
theorem q_j5_e {A1 A2 A3 A4 A5 β γ : Type} {K : A1 → A2 → A3 → A4 → A5 → Option β} {b : (A1 → A2 → A3 → A4 → A5 → Option β) → Option γ} {r : γ} (h : q_j5 K b = some r) : ∃ K2 : A1 → A2 → A3 → A4 → A5 → Option β, (∀ (x1 : A1) (x2 : A2) (x3 : A3) (x4 : A4) (x5 : A5), K2 x1 x2 x3 x4 x5 = K x1 x2 x3 x4 x5) ∧ b K2 = some r := ⟨K, fun _ _ _ _ _ => rfl, h⟩
theorem q_s5_k {A1 A2 A3 A4 A5 β : Type} {m : Option ((A1 × A2 × A3 × A4 × A5) ⊕ β)} {k : A1 → A2 → A3 → A4 → A5 → Option β} {r : β} (h : q_s5 m k = some r) : ∃ (k2 : A1 → A2 → A3 → A4 → A5 → Option β) (o : (A1 × A2 × A3 × A4 × A5) ⊕ β), (∀ (x1 : A1) (x2 : A2) (x3 : A3) (x4 : A4) (x5 : A5), k2 x1 x2 x3 x4 x5 = k x1 x2 x3 x4 x5) ∧ m = some o ∧ q_o5 o k2 r := by
  obtain ⟨o, h1, h2⟩ := q_s5_e h
  exact ⟨k, o, fun _ _ _ _ _ => rfl, h1, h2⟩
def q_j6 {A1 A2 A3 A4 A5 A6 β γ : Type} (K : A1 → A2 → A3 → A4 → A5 → A6 → Option β) (b : (A1 → A2 → A3 → A4 → A5 → A6 → Option β) → Option γ) : Option γ := b K
theorem q_j6_e {A1 A2 A3 A4 A5 A6 β γ : Type} {K : A1 → A2 → A3 → A4 → A5 → A6 → Option β} {b : (A1 → A2 → A3 → A4 → A5 → A6 → Option β) → Option γ} {r : γ} (h : q_j6 K b = some r) : ∃ K2 : A1 → A2 → A3 → A4 → A5 → A6 → Option β, (∀ (x1 : A1) (x2 : A2) (x3 : A3) (x4 : A4) (x5 : A5) (x6 : A6), K2 x1 x2 x3 x4 x5 x6 = K x1 x2 x3 x4 x5 x6) ∧ b K2 = some r := ⟨K, fun _ _ _ _ _ _ => rfl, h⟩
theorem q_s6_k {A1 A2 A3 A4 A5 A6 β : Type} {m : Option ((A1 × A2 × A3 × A4 × A5 × A6) ⊕ β)} {k : A1 → A2 → A3 → A4 → A5 → A6 → Option β} {r : β} (h : q_s6 m k = some r) : ∃ (k2 : A1 → A2 → A3 → A4 → A5 → A6 → Option β) (o : (A1 × A2 × A3 × A4 × A5 × A6) ⊕ β), (∀ (x1 : A1) (x2 : A2) (x3 : A3) (x4 : A4) (x5 : A5) (x6 : A6), k2 x1 x2 x3 x4 x5 x6 = k x1 x2 x3 x4 x5 x6) ∧ m = some o ∧ q_o6 o k2 r := by
  obtain ⟨o, h1, h2⟩ := q_s6_e h
  exact ⟨k, o, fun _ _ _ _ _ _ => rfl, h1, h2⟩
def q_j7 {A1 A2 A3 A4 A5 A6 A7 β γ : Type} (K : A1 → A2 → A3 → A4 → A5 → A6 → A7 → Option β) (b : (A1 → A2 → A3 → A4 → A5 → A6 → A7 → Option β) → Option γ) : Option γ := b K
theorem q_j7_e {A1 A2 A3 A4 A5 A6 A7 β γ : Type} {K : A1 → A2 → A3 → A4 → A5 → A6 → A7 → Option β} {b : (A1 → A2 → A3 → A4 → A5 → A6 → A7 → Option β) → Option γ} {r : γ} (h : q_j7 K b = some r) : ∃ K2 : A1 → A2 → A3 → A4 → A5 → A6 → A7 → Option β, (∀ (x1 : A1) (x2 : A2) (x3 : A3) (x4 : A4) (x5 : A5) (x6 : A6) (x7 : A7), K2 x1 x2 x3 x4 x5 x6 x7 = K x1 x2 x3 x4 x5 x6 x7) ∧ b K2 = some r := ⟨K, fun _ _ _ _ _ _ _ => rfl, h⟩
theorem q_s7_k {A1 A2 A3 A4 A5 A6 A7 β : Type} {m : Option ((A1 × A2 × A3 × A4 × A5 × A6 × A7) ⊕ β)} {k : A1 → A2 → A3 → A4 → A5 → A6 → A7 → Option β} {r : β} (h : q_s7 m k = some r) : ∃ (k2 : A1 → A2 → A3 → A4 → A5 → A6 → A7 → Option β) (o : (A1 × A2 × A3 × A4 × A5 × A6 × A7) ⊕ β), (∀ (x1 : A1) (x2 : A2) (x3 : A3) (x4 : A4) (x5 : A5) (x6 : A6) (x7 : A7), k2 x1 x2 x3 x4 x5 x6 x7 = k x1 x2 x3 x4 x5 x6 x7) ∧ m = some o ∧ q_o7 o k2 r := by
  obtain ⟨o, h1, h2⟩ := q_s7_e h
  exact ⟨k, o, fun _ _ _ _ _ _ _ => rfl, h1, h2⟩
def q_j8 {A1 A2 A3 A4 A5 A6 A7 A8 β γ : Type} (K : A1 → A2 → A3 → A4 → A5 → A6 → A7 → A8 → Option β) (b : (A1 → A2 → A3 → A4 → A5 → A6 → A7 → A8 → Option β) → Option γ) : Option γ := b K
theorem q_j8_e {A1 A2 A3 A4 A5 A6 A7 A8 β γ : Type} {K : A1 → A2 → A3 → A4 → A5 → A6 → A7 → A8 → Option β} {b : (A1 → A2 → A3 → A4 → A5 → A6 → A7 → A8 → Option β) → Option γ} {r : γ} (h : q_j8 K b = some r) : ∃ K2 : A1 → A2 → A3 → A4 → A5 → A6 → A7 → A8 → Option β, (∀ (x1 : A1) (x2 : A2) (x3 : A3) (x4 : A4) (x5 : A5) (x6 : A6) (x7 : A7) (x8 : A8), K2 x1 x2 x3 x4 x5 x6 x7 x8 = K x1 x2 x3 x4 x5 x6 x7 x8) ∧ b K2 = some r := ⟨K, fun _ _ _ _ _ _ _ _ => rfl, h⟩
theorem q_s8_k {A1 A2 A3 A4 A5 A6 A7 A8 β : Type} {m : Option ((A1 × A2 × A3 × A4 × A5 × A6 × A7 × A8) ⊕ β)} {k : A1 → A2 → A3 → A4 → A5 → A6 → A7 → A8 → Option β} {r : β} (h : q_s8 m k = some r) : ∃ (k2 : A1 → A2 → A3 → A4 → A5 → A6 → A7 → A8 → Option β) (o : (A1 × A2 × A3 × A4 × A5 × A6 × A7 × A8) ⊕ β), (∀ (x1 : A1) (x2 : A2) (x3 : A3) (x4 : A4) (x5 : A5) (x6 : A6) (x7 : A7) (x8 : A8), k2 x1 x2 x3 x4 x5 x6 x7 x8 = k x1 x2 x3 x4 x5 x6 x7 x8) ∧ m = some o ∧ q_o8 o k2 r := by
  obtain ⟨o, h1, h2⟩ := q_s8_e h
  exact ⟨k, o, fun _ _ _ _ _ _ _ _ => rfl, h1, h2⟩
def q_j9 {A1 A2 A3 A4 A5 A6 A7 A8 A9 β γ : Type} (K : A1 → A2 → A3 → A4 → A5 → A6 → A7 → A8 → A9 → Option β) (b : (A1 → A2 → A3 → A4 → A5 → A6 → A7 → A8 → A9 → Option β) → Option γ) : Option γ := b K
theorem q_j9_e {A1 A2 A3 A4 A5 A6 A7 A8 A9 β γ : Type} {K : A1 → A2 → A3 → A4 → A5 → A6 → A7 → A8 → A9 → Option β} {b : (A1 → A2 → A3 → A4 → A5 → A6 → A7 → A8 → A9 → Option β) → Option γ} {r : γ} (h : q_j9 K b = some r) : ∃ K2 : A1 → A2 → A3 → A4 → A5 → A6 → A7 → A8 → A9 → Option β, (∀ (x1 : A1) (x2 : A2) (x3 : A3) (x4 : A4) (x5 : A5) (x6 : A6) (x7 : A7) (x8 : A8) (x9 : A9), K2 x1 x2 x3 x4 x5 x6 x7 x8 x9 = K x1 x2 x3 x4 x5 x6 x7 x8 x9) ∧ b K2 = some r := ⟨K, fun _ _ _ _ _ _ _ _ _ => rfl, h⟩
theorem q_s9_k {A1 A2 A3 A4 A5 A6 A7 A8 A9 β : Type} {m : Option ((A1 × A2 × A3 × A4 × A5 × A6 × A7 × A8 × A9) ⊕ β)} {k : A1 → A2 → A3 → A4 → A5 → A6 → A7 → A8 → A9 → Option β} {r : β} (h : q_s9 m k = some r) : ∃ (k2 : A1 → A2 → A3 → A4 → A5 → A6 → A7 → A8 → A9 → Option β) (o : (A1 × A2 × A3 × A4 × A5 × A6 × A7 × A8 × A9) ⊕ β), (∀ (x1 : A1) (x2 : A2) (x3 : A3) (x4 : A4) (x5 : A5) (x6 : A6) (x7 : A7) (x8 : A8) (x9 : A9), k2 x1 x2 x3 x4 x5 x6 x7 x8 x9 = k x1 x2 x3 x4 x5 x6 x7 x8 x9) ∧ m = some o ∧ q_o9 o k2 r := by
  obtain ⟨o, h1, h2⟩ := q_s9_e h
  exact ⟨k, o, fun _ _ _ _ _ _ _ _ _ => rfl, h1, h2⟩
def q_j10 {A1 A2 A3 A4 A5 A6 A7 A8 A9 A10 β γ : Type} (K : A1 → A2 → A3 → A4 → A5 → A6 → A7 → A8 → A9 → A10 → Option β) (b : (A1 → A2 → A3 → A4 → A5 → A6 → A7 → A8 → A9 → A10 → Option β) → Option γ) : Option γ := b K
theorem q_j10_e {A1 A2 A3 A4 A5 A6 A7 A8 A9 A10 β γ : Type} {K : A1 → A2 → A3 → A4 → A5 → A6 → A7 → A8 → A9 → A10 → Option β} {b : (A1 → A2 → A3 → A4 → A5 → A6 → A7 → A8 → A9 → A10 → Option β) → Option γ} {r : γ} (h : q_j10 K b = some r) : ∃ K2 : A1 → A2 → A3 → A4 → A5 → A6 → A7 → A8 → A9 → A10 → Option β, (∀ (x1 : A1) (x2 : A2) (x3 : A3) (x4 : A4) (x5 : A5) (x6 : A6) (x7 : A7) (x8 : A8) (x9 : A9) (x10 : A10), K2 x1 x2 x3 x4 x5 x6 x7 x8 x9 x10 = K x1 x2 x3 x4 x5 x6 x7 x8 x9 x10) ∧ b K2 = some r := ⟨K, fun _ _ _ _ _ _ _ _ _ _ => rfl, h⟩
theorem q_s10_k {A1 A2 A3 A4 A5 A6 A7 A8 A9 A10 β : Type} {m : Option ((A1 × A2 × A3 × A4 × A5 × A6 × A7 × A8 × A9 × A10) ⊕ β)} {k : A1 → A2 → A3 → A4 → A5 → A6 → A7 → A8 → A9 → A10 → Option β} {r : β} (h : q_s10 m k = some r) : ∃ (k2 : A1 → A2 → A3 → A4 → A5 → A6 → A7 → A8 → A9 → A10 → Option β) (o : (A1 × A2 × A3 × A4 × A5 × A6 × A7 × A8 × A9 × A10) ⊕ β), (∀ (x1 : A1) (x2 : A2) (x3 : A3) (x4 : A4) (x5 : A5) (x6 : A6) (x7 : A7) (x8 : A8) (x9 : A9) (x10 : A10), k2 x1 x2 x3 x4 x5 x6 x7 x8 x9 x10 = k x1 x2 x3 x4 x5 x6 x7 x8 x9 x10) ∧ m = some o ∧ q_o10 o k2 r := by
  obtain ⟨o, h1, h2⟩ := q_s10_e h
  exact ⟨k, o, fun _ _ _ _ _ _ _ _ _ _ => rfl, h1, h2⟩
def q_j11 {A1 A2 A3 A4 A5 A6 A7 A8 A9 A10 A11 β γ : Type} (K : A1 → A2 → A3 → A4 → A5 → A6 → A7 → A8 → A9 → A10 → A11 → Option β) (b : (A1 → A2 → A3 → A4 → A5 → A6 → A7 → A8 → A9 → A10 → A11 → Option β) → Option γ) : Option γ := b K
theorem q_j11_e {A1 A2 A3 A4 A5 A6 A7 A8 A9 A10 A11 β γ : Type} {K : A1 → A2 → A3 → A4 → A5 → A6 → A7 → A8 → A9 → A10 → A11 → Option β} {b : (A1 → A2 → A3 → A4 → A5 → A6 → A7 → A8 → A9 → A10 → A11 → Option β) → Option γ} {r : γ} (h : q_j11 K b = some r) : ∃ K2 : A1 → A2 → A3 → A4 → A5 → A6 → A7 → A8 → A9 → A10 → A11 → Option β, (∀ (x1 : A1) (x2 : A2) (x3 : A3) (x4 : A4) (x5 : A5) (x6 : A6) (x7 : A7) (x8 : A8) (x9 : A9) (x10 : A10) (x11 : A11), K2 x1 x2 x3 x4 x5 x6 x7 x8 x9 x10 x11 = K x1 x2 x3 x4 x5 x6 x7 x8 x9 x10 x11) ∧ b K2 = some r := ⟨K, fun _ _ _ _ _ _ _ _ _ _ _ => rfl, h⟩
theorem q_s11_k {A1 A2 A3 A4 A5 A6 A7 A8 A9 A10 A11 β : Type} {m : Option ((A1 × A2 × A3 × A4 × A5 × A6 × A7 × A8 × A9 × A10 × A11) ⊕ β)} {k : A1 → A2 → A3 → A4 → A5 → A6 → A7 → A8 → A9 → A10 → A11 → Option β} {r : β} (h : q_s11 m k = some r) : ∃ (k2 : A1 → A2 → A3 → A4 → A5 → A6 → A7 → A8 → A9 → A10 → A11 → Option β) (o : (A1 × A2 × A3 × A4 × A5 × A6 × A7 × A8 × A9 × A10 × A11) ⊕ β), (∀ (x1 : A1) (x2 : A2) (x3 : A3) (x4 : A4) (x5 : A5) (x6 : A6) (x7 : A7) (x8 : A8) (x9 : A9) (x10 : A10) (x11 : A11), k2 x1 x2 x3 x4 x5 x6 x7 x8 x9 x10 x11 = k x1 x2 x3 x4 x5 x6 x7 x8 x9 x10 x11) ∧ m = some o ∧ q_o11 o k2 r := by
  obtain ⟨o, h1, h2⟩ := q_s11_e h
  exact ⟨k, o, fun _ _ _ _ _ _ _ _ _ _ _ => rfl, h1, h2⟩
def q_j12 {A1 A2 A3 A4 A5 A6 A7 A8 A9 A10 A11 A12 β γ : Type} (K : A1 → A2 → A3 → A4 → A5 → A6 → A7 → A8 → A9 → A10 → A11 → A12 → Option β) (b : (A1 → A2 → A3 → A4 → A5 → A6 → A7 → A8 → A9 → A10 → A11 → A12 → Option β) → Option γ) : Option γ := b K
theorem q_j12_e {A1 A2 A3 A4 A5 A6 A7 A8 A9 A10 A11 A12 β γ : Type} {K : A1 → A2 → A3 → A4 → A5 → A6 → A7 → A8 → A9 → A10 → A11 → A12 → Option β} {b : (A1 → A2 → A3 → A4 → A5 → A6 → A7 → A8 → A9 → A10 → A11 → A12 → Option β) → Option γ} {r : γ} (h : q_j12 K b = some r) : ∃ K2 : A1 → A2 → A3 → A4 → A5 → A6 → A7 → A8 → A9 → A10 → A11 → A12 → Option β, (∀ (x1 : A1) (x2 : A2) (x3 : A3) (x4 : A4) (x5 : A5) (x6 : A6) (x7 : A7) (x8 : A8) (x9 : A9) (x10 : A10) (x11 : A11) (x12 : A12), K2 x1 x2 x3 x4 x5 x6 x7 x8 x9 x10 x11 x12 = K x1 x2 x3 x4 x5 x6 x7 x8 x9 x10 x11 x12) ∧ b K2 = some r := ⟨K, fun _ _ _ _ _ _ _ _ _ _ _ _ => rfl, h⟩
theorem q_s12_k {A1 A2 A3 A4 A5 A6 A7 A8 A9 A10 A11 A12 β : Type} {m : Option ((A1 × A2 × A3 × A4 × A5 × A6 × A7 × A8 × A9 × A10 × A11 × A12) ⊕ β)} {k : A1 → A2 → A3 → A4 → A5 → A6 → A7 → A8 → A9 → A10 → A11 → A12 → Option β} {r : β} (h : q_s12 m k = some r) : ∃ (k2 : A1 → A2 → A3 → A4 → A5 → A6 → A7 → A8 → A9 → A10 → A11 → A12 → Option β) (o : (A1 × A2 × A3 × A4 × A5 × A6 × A7 × A8 × A9 × A10 × A11 × A12) ⊕ β), (∀ (x1 : A1) (x2 : A2) (x3 : A3) (x4 : A4) (x5 : A5) (x6 : A6) (x7 : A7) (x8 : A8) (x9 : A9) (x10 : A10) (x11 : A11) (x12 : A12), k2 x1 x2 x3 x4 x5 x6 x7 x8 x9 x10 x11 x12 = k x1 x2 x3 x4 x5 x6 x7 x8 x9 x10 x11 x12) ∧ m = some o ∧ q_o12 o k2 r := by
  obtain ⟨o, h1, h2⟩ := q_s12_e h
  exact ⟨k, o, fun _ _ _ _ _ _ _ _ _ _ _ _ => rfl, h1, h2⟩
def q_bo {β : Type} (v : Int32) (k : Option β) : Option β := if v = 0 ∨ v = 1 then k else none
theorem q_bo_e {β : Type} {v : Int32} {k : Option β} {r : β} (h : q_bo v k = some r) : narrow .boolean (.int v) = .int v ∧ fits .boolean (.int v) = true ∧ k = some r := by
  unfold q_bo at h; split at h
  · rename_i h0
    rcases h0 with rfl | rfl
    · exact ⟨rfl, rfl, h⟩
    · exact ⟨rfl, rfl, h⟩
  · cases h
theorem q_nei {x y : Int32} (h : ¬ x = y) : x.toInt ≠ y.toInt := fun e => h (Int32.toInt_inj.mp e)
def q_ch {β : Type} (v : Int32) (k : Option β) : Option β := if (v.toUInt32 % 65536).toInt32 = v then k else none
theorem q_ch_e {β : Type} {v : Int32} {k : Option β} {r : β} (h : q_ch v k = some r) : narrow .char (.int v) = .int v ∧ k = some r := by
  unfold q_ch at h; split at h
  · rename_i h0
    exact ⟨by rw [← h0]; exact pk_nc _, h⟩
  · cases h
def q_bz : List Int32 := [15, 15, 15, 30, 30, 30, 30, 60, 60, 60, 60, 60, 60, 60, 60, 60, 60, 60, 60, 60, 60, 60, 60, 60, 60, 60, 60, 60, 60, 60, 60, 60, 60, 60, 60, 60, 60, 30, 30, 30, 30, 15, 15, 15]
def q_za : List Int32 := [0, 15, 30, 45, 75, 105, 135, 165, 225, 285, 345, 405, 465, 525, 585, 645, 705, 765, 825, 885, 945, 1005, 1065, 1125, 1185, 1245, 1305, 1365, 1425, 1485, 1545, 1605, 1665, 1725, 1785, 1845, 1905, 1965, 1995, 2025, 2055, 2085, 2100, 2115]
def q_bZ (j : Nat) : Int32 := q_bz.getD j 0
def q_zA (j : Nat) : Int32 := q_za.getD j 0
def q_c2 : Nat → Int32 := upd (upd (upd (upd (upd (fun _ => 0) (0 : Int32).toNatClampNeg 1) (1 : Int32).toNatClampNeg 2) (2 : Int32).toNatClampNeg 2) (3 : Int32).toNatClampNeg 2) (4 : Int32).toNatClampNeg 2
def q_slen : List Nat := [5, 4, 5, 4, 5, 5, 7]
def q_sbyt : List (List Int32) := [[110, 111, 114, 116, 104], [101, 97, 115, 116], [115, 111, 117, 116, 104], [119, 101, 115, 116], [97, 98, 111, 118, 101], [115, 116, 101, 112, 115], [98, 101, 116, 119, 101, 101, 110]]
def q_sidx : List Nat := [63, 69, 71, 73, 75, 77, 79]
def q_stx : List String := ["north", "east", "south", "west", "above", "steps", "between"]
abbrev q_tys (ci : Nat → ClassId) : List (ClassId × FieldType) := [(ci 0, .int), (ci 1, .long), (ci 2, .byte), (ci 3, .object "SheetNames$Atlas")]
def q_nf : List (String × Nat × String × String × String × String) := [("SheetNames", 109, "SheetNames$Store", "size", "I", "SheetNames"), ("SheetNames", 126, "SheetNames$Grid", "sheets", "[I", "SheetNames"), ("SheetNames", 133, "SheetNames$Grid", "rows", "[I", "SheetNames"), ("SheetNames", 136, "SheetNames$Grid", "rowCuts", "[I", "SheetNames"), ("SheetNames", 139, "SheetNames$Grid", "columnCuts", "[I", "SheetNames"), ("SheetNames", 142, "SheetNames$Grid", "bandRows", "[I", "SheetNames"), ("SheetNames", 145, "SheetNames$Grid", "zoneColumns", "[I", "SheetNames"), ("SheetNames", 16, "SheetNames$Atlas", "grid", "LSheetNames$Grid;", "SheetNames"), ("SheetNames", 167, "SheetNames$NameText", "length", "I", "SheetNames"), ("SheetNames", 168, "SheetNames$NameText", "bytes", "[I", "SheetNames"), ("SheetNames", 182, "SheetNames$NameReader", "level", "I", "SheetNames"), ("SheetNames", 185, "SheetNames$NameReader", "key", "I", "SheetNames"), ("SheetNames", 21, "SheetNames$Atlas", "store", "LSheetNames$Store;", "SheetNames"), ("SheetNames", 214, "SheetNames$Spot", "row", "I", "SheetNames"), ("SheetNames", 217, "SheetNames$Spot", "place", "I", "SheetNames"), ("SheetNames", 220, "SheetNames$Spot", "length", "I", "SheetNames"), ("SheetNames", 250, "SheetNames$Spot", "many", "[I", "SheetNames"), ("SheetNames", 253, "SheetNames$Spot", "first", "[I", "SheetNames"), ("SheetNames", 283, "SheetNames$Spot", "cornerCount", "I", "SheetNames"), ("SheetNames", 286, "SheetNames$Spot", "corner", "[I", "SheetNames"), ("SheetNames", 347, "SheetNames$Question", "word", "I", "SheetNames"), ("SheetNames", 350, "SheetNames$Question", "level", "I", "SheetNames"), ("SheetNames", 351, "SheetNames$Question", "key", "I", "SheetNames"), ("SheetNames", 356, "SheetNames$Question", "otherLevel", "I", "SheetNames"), ("SheetNames", 359, "SheetNames$Question", "otherKey", "I", "SheetNames"), ("SheetNames", 376, "SheetNames$Store", "years", "[I", "SheetNames"), ("SheetNames", 382, "SheetNames$Store", "levels", "[I", "SheetNames"), ("SheetNames", 385, "SheetNames$Store", "keys", "[I", "SheetNames"), ("SheetNames", 391, "SheetNames$Store", "shownBy", "I", "SheetNames"), ("SheetNames", 394, "SheetNames$Store", "deepestShown", "I", "SheetNames"), ("SheetNames", 397, "SheetNames$Store", "latestShown", "I", "SheetNames"), ("SheetNames", 429, "SheetNames$Atlas", "right", "I", "SheetNames"), ("SheetNames", 432, "SheetNames$Atlas", "faulty", "I", "SheetNames"), ("SheetNames", 435, "SheetNames$Atlas", "endedSoon", "I", "SheetNames"), ("SheetNames", 438, "SheetNames$Atlas", "noSuchNumber", "I", "SheetNames"), ("SheetNames", 98, "SheetNames$Tape", "length", "I", "SheetNames"), ("SheetNames$Atlas", 40, "SheetNames$NameReader", "endedSoon", "Z", "SheetNames"), ("SheetNames$Atlas", 45, "SheetNames$NameReader", "fault", "I", "SheetNames"), ("SheetNames$Box", 49, "SheetNames$Grid", "bandRows", "[I", "SheetNames"), ("SheetNames$Box", 60, "SheetNames$Grid", "rows", "[I", "SheetNames"), ("SheetNames$Box", 92, "SheetNames$Grid", "rowCuts", "[I", "SheetNames"), ("SheetNames$Box", 95, "SheetNames$Grid", "columnCuts", "[I", "SheetNames"), ("SheetNames$Grid", 47, "SheetNames", "BAND_ZONES", "[I", "SheetNames"), ("SheetNames$Grid", 50, "SheetNames", "ZONES_AHEAD", "[I", "SheetNames"), ("SheetNames$NameReader", 58, "SheetNames$Grid", "sheets", "[I", "SheetNames"), ("SheetNames$NameReader", 64, "SheetNames", "BAND_ZONES", "[I", "SheetNames"), ("SheetNames$NameReader", 71, "SheetNames$Grid", "columnCuts", "[I", "SheetNames"), ("SheetNames$NameReader", 74, "SheetNames$Grid", "rowCuts", "[I", "SheetNames"), ("SheetNames$NameReader", 88, "SheetNames$Tape", "length", "I", "SheetNames"), ("SheetNames$NameReader", 93, "SheetNames$Tape", "bytes", "[I", "SheetNames"), ("SheetNames$NameText", 19, "SheetNames$Spot", "cap", "Z", "SheetNames"), ("SheetNames$NameText", 25, "SheetNames$Spot", "row", "I", "SheetNames"), ("SheetNames$NameText", 43, "SheetNames$Spot", "level", "I", "SheetNames"), ("SheetNames$Question", 58, "SheetNames$NameReader", "level", "I", "SheetNames"), ("SheetNames$Question", 59, "SheetNames$NameReader", "key", "I", "SheetNames"), ("SheetNames$Spot", 110, "SheetNames$Grid", "sheets", "[I", "SheetNames"), ("SheetNames$Spot", 120, "SheetNames$Grid", "rows", "[I", "SheetNames"), ("SheetNames$Spot", 64, "SheetNames$Grid", "bandRows", "[I", "SheetNames"), ("SheetNames$Spot", 67, "SheetNames$Grid", "zoneColumns", "[I", "SheetNames"), ("SheetNames$Spot", 77, "SheetNames$Grid", "rowCuts", "[I", "SheetNames"), ("SheetNames$Spot", 83, "SheetNames$Grid", "columnCuts", "[I", "SheetNames"), ("SheetNames$Walk", 31, "SheetNames$Spot", "grid", "LSheetNames$Grid;", "SheetNames"), ("SheetNames$Walk", 35, "SheetNames$Grid", "sheets", "[I", "SheetNames")]
def q_nml : List (String × Nat × MethodName × String) := [("SheetNames", 38, ⟨"SheetNames$Tape", "<init>", "()V"⟩, "SheetNames"), ("SheetNames", 86, ⟨"SheetNames$NameText", "<init>", "()V"⟩, "SheetNames"), ("SheetNames", 9, ⟨"SheetNames$Atlas", "<init>", "()V"⟩, "SheetNames"), ("SheetNames$Grid", 43, ⟨"SheetNames", "isLevel", "(I)Z"⟩, "SheetNames")]
def q_fo (sa : Nat → Nat) : Value := va_rf (if sa 16 = 0 then none else some (sa 16 - 1))
def q_Z (A : Nat → Prop) (sa : Nat → Nat) (U : State) : Prop :=
  va_Z "SheetNames" "BAND_ZONES" "[I" (.ref (sa 0)) A U U.heap ∧ va_T .int (sa 0) 44 (fun j => .int (q_bZ j)) A U U.heap ∧
  va_Z "SheetNames" "ZONES_AHEAD" "[I" (.ref (sa 1)) A U U.heap ∧ va_T .int (sa 1) 44 (fun j => .int (q_zA j)) A U U.heap ∧
  va_Z "java/lang/String" "COMPACT_STRINGS" "Z" (.int 1) A U U.heap ∧
  vk_S 7 q_slen q_sbyt (fun i => sa (2 + i)) (fun i => sa (9 + i)) A U U.heap ∧
  (∀ i : Nat, i < 7 → vk_R "SheetNames$Question" (q_sidx.getD i 0) (q_stx.getD i "") (sa (2 + i)) U) ∧
  va_Z "jdk/internal/util/Preconditions" "SIOOBE_FORMATTER" "Ljava/util/function/BiFunction;" (q_fo sa) A U U.heap ∧
  va_AO "SheetNames$Atlas" U ∧
  (∀ q ∈ q_nf, va_Nw (.fieldLinkNest q.1 q.2.1 q.2.2.1 q.2.2.2.1 q.2.2.2.2.1 q.2.2.2.2.2) U) ∧ ∀ q ∈ q_nml, va_Nw (.methodLinkNest q.1 q.2.1 q.2.2.1 q.2.2.2) U
theorem q_Z.go {A : Nat → Prop} {sa : Nat → Nat} {s U : State} (h : q_Z A sa s) (hW : s.WarmedH U.vm) (hq : ∀ a : Nat, a < s.heap.size → ¬ A a → U.heap[a]? = s.heap[a]?) : q_Z A sa U := by
  obtain ⟨h1, h2, h3, h4, h5, h6, h7, h10, h11, h8, h9⟩ := h
  have hv := hW.alike
  exact ⟨(h1.kept hq).moved hv, (h2.kept hq).moved hv, (h3.kept hq).moved hv, (h4.kept hq).moved hv, (h5.kept hq).moved hv, (h6.kept hq).moved hv, fun i hi => (h7 i hi).warm hW, (h10.kept hq).moved hv, h11.moved hv, fun q hq => (h8 q hq).warmF hW, fun q hq => (h9 q hq).warmM hW⟩
theorem q_Z.same {A : Nat → Prop} {sa : Nat → Nat} {s U : State} (h : q_Z A sa s) (hv : U.vm = s.vm) (hh : U.heap = s.heap) : q_Z A sa U := by
  obtain ⟨h1, h2, h3, h4, h5, h6, h7, h10, h11, h8, h9⟩ := h
  have hm : s.vm.Alike U.vm := by rw [hv]; exact Vm.Alike.refl _
  have hq : ∀ a : Nat, a < s.heap.size → ¬ A a → U.heap[a]? = s.heap[a]? := fun a _ _ => by rw [hh]
  exact ⟨(h1.kept hq).moved hm, (h2.kept hq).moved hm, (h3.kept hq).moved hm, (h4.kept hq).moved hm, (h5.kept hq).moved hm, (h6.kept hq).moved hm, fun i hi => (h7 i hi).same hv, (h10.kept hq).moved hm, h11.moved hm, fun q hq => (h8 q hq).same rfl hv.symm, fun q hq => (h9 q hq).same rfl hv.symm⟩
/-- what holds at a method's start -/
def q_N (D : va_G) (ci : Nat → ClassId) (A : Nat → Prop) (sa : Nat → Nat) (Wd : va_W) (U : State) : Prop := va_P D vwCl Wd U.heap ∧ va_D A Wd ∧ va_K D vwCl (q_tys ci) U ∧ (∀ q : Nat, U.heap.size ≤ q → A q) ∧ q_Z A sa U
/-- and at its end -/
def q_O (D : va_G) (A : Nat → Prop) (Wd : va_W) (t : State) : Prop := va_P D vwCl Wd t.heap ∧ va_D A Wd
def q_Q (v : Option Value) (B : State → Prop) (A : Nat → Prop) : Array Value → State → Outcome → State → Prop := fun _ st oc t => oc = .returned v ∧ B t ∧ va_F A st t
def q_R (v : Option Value) : Array Value → State → Outcome → State → Prop := fun _ st oc t => oc = .returned v ∧ t.heap = st.heap
theorem q_blind {D : va_G} {ci : Nat → ClassId} {A : Nat → Prop} {sa : Nat → Nat} {Wd : va_W} {av : List Value} : FrameBlind (va_Pc av (q_N D ci A sa Wd)) := by
  intro a U g mk q
  obtain ⟨q0, h1, h2, h3, h4, h5⟩ := q
  exact ⟨q0, h1, h2, va_K.moved (u := U) (U := U.calling g mk a) (Vm.Alike.refl U.vm) h3, h4, h5.same rfl rfl⟩
def q_pk (n : Nat) (is : List Nat) (Wd : va_W) : va_W := is.filterMap (fun i => (Wd.take n)[i]?) ++ Wd.drop n
def q_ok (n : Nat) (is : List Nat) (Wd : va_W) : Prop := va_nd is = true ∧ is.all (fun i => Nat.blt i n) = true ∧ (Wd.take n).length = n
theorem q_pk_P {D : va_G} {cl : List vw_C} {n : Nat} {is : List Nat} {Wd W1 : va_W} {H : Heap} (h : va_P D cl Wd H) (e : q_pk n is Wd = W1) : va_P D cl W1 H := by
  subst e
  refine va_P.app ?_ ?_
  · intro k q hk
    obtain ⟨i, -, hi⟩ := List.mem_filterMap.mp (List.mem_of_getElem? hk)
    have hm : q ∈ Wd := List.mem_of_mem_take (List.mem_of_getElem? hi)
    obtain ⟨j, hj⟩ := List.getElem?_of_mem hm
    exact h j q hj
  · intro k q hk
    have hm : q ∈ Wd := List.mem_of_mem_drop (List.mem_of_getElem? hk)
    obtain ⟨j, hj⟩ := List.getElem?_of_mem hm
    exact h j q hj
theorem q_pk_D {A : Nat → Prop} {n : Nat} {is : List Nat} {Wd W1 : va_W} (h : va_D A Wd) (e : q_pk n is Wd = W1) (hn : q_ok n is Wd) : va_D A W1 := by
  subst e
  have ht : va_D A (Wd.take n) := ⟨fun i j p q hi hj hpq => by
    have hi' : Wd[i]? = some p := by
      rw [List.getElem?_take] at hi; split at hi
      · exact hi
      · cases hi
    have hj' : Wd[j]? = some q := by
      rw [List.getElem?_take] at hj; split at hj
      · exact hj
      · cases hj
    exact h.1 i j p q hi' hj' hpq, fun k q hk => by
    have hk' : Wd[k]? = some q := by
      rw [List.getElem?_take] at hk; split at hk
      · exact hk
      · cases hk
    exact h.2 k q hk'⟩
  have hd : va_D A (Wd.drop n) := ⟨fun i j p q hi hj hpq => by
    rw [List.getElem?_drop] at hi hj
    have := h.1 _ _ p q hi hj hpq
    omega, fun k q hk => by
    rw [List.getElem?_drop] at hk
    exact h.2 _ q hk⟩
  have hm : ∀ is : List Nat, is.all (fun i => Nat.blt i n) = true → is.map (fun i => (Wd.take n)[i]?) = (is.filterMap (fun i => (Wd.take n)[i]?)).map some := by
    intro is
    induction is with
    | nil => intro _; rfl
    | cons a is ih =>
      intro h
      rw [List.all_cons, Bool.and_eq_true] at h
      have ha : a < (Wd.take n).length := by rw [hn.2.2]; exact Nat.blt_eq.mp h.1
      rw [List.map_cons, List.filterMap_cons, List.getElem?_eq_getElem ha, ih h.2]
      rfl
  refine va_D.app (ht.sub is hn.1 (hm is hn.2.1)) hd ?_
  intro i j p q hi hj hpq
  obtain ⟨a, -, ha⟩ := List.mem_filterMap.mp (List.mem_of_getElem? hi)
  rw [List.getElem?_drop] at hj
  rw [List.getElem?_take] at ha
  split at ha
  · have := h.1 _ _ p q ha hj hpq
    omega
  · cases ha
section QROWS
variable {p : Program} {l : Launch} {e : Env} {R : Room} {s : State} {m : MethodId} {args : Array Value} {below : List Frame} {meth : Method} {c : Code} {H : Heap} {locs : List Loc} {cells slots : Nat} {Q : State → Prop}
variable {cc : ByteArray} {pc : Nat} {ls : Array Slot} {rest : List Value} {β : Type} {r : β}
theorem q_topi {x y : Int32} (h : y = x) (k : W p l e R s m args below meth c H locs cells slots Q (F0 m pc ls (.int y :: rest))) : W p l e R s m args below meth c H locs cells slots Q (F0 m pc ls (.int x :: rest)) := h ▸ k
theorem q_topl {x y : Int64} (h : y = x) (k : W p l e R s m args below meth c H locs cells slots Q (F0 m pc ls (.long y :: rest))) : W p l e R s m args below meth c H locs cells slots Q (F0 m pc ls (.long x :: rest)) := h ▸ k
theorem q_idiv (hx : p.tables.exec = Jvm.exec) (hb : c.code = cc) {x y : Int32} {k : Int32 → Option β} (hdg : decode cc pc = .ok (.idiv, 1)) (hf : q_dv x y k = some r) (kk : ∀ z : Int32, k z = some r → W p l e R s m args below meth c H locs cells slots Q (F0 m (pc + 1) ls (.int z :: rest))) : W p l e R s m args below meth c H locs cells slots Q (F0 m pc ls (.int y :: .int x :: rest)) := by
  obtain ⟨h0, hf⟩ := q_dv_e hf
  exact lv_idiv hx hb hdg h0 (kk _ hf)
theorem q_irem (hx : p.tables.exec = Jvm.exec) (hb : c.code = cc) {x y : Int32} {k : Int32 → Option β} (hdg : decode cc pc = .ok (.irem, 1)) (hf : q_rm x y k = some r) (kk : ∀ z : Int32, k z = some r → W p l e R s m args below meth c H locs cells slots Q (F0 m (pc + 1) ls (.int z :: rest))) : W p l e R s m args below meth c H locs cells slots Q (F0 m pc ls (.int y :: .int x :: rest)) := by
  obtain ⟨h0, hf⟩ := q_rm_e hf
  exact lv_irem hx hb hdg h0 (kk _ hf)
theorem q_ldiv (hx : p.tables.exec = Jvm.exec) (hb : c.code = cc) {x y : Int64} {k : Int64 → Option β} (hdg : decode cc pc = .ok (.ldiv, 1)) (hf : q_dvl x y k = some r) (kk : ∀ z : Int64, k z = some r → W p l e R s m args below meth c H locs cells slots Q (F0 m (pc + 1) ls (.long z :: rest))) : W p l e R s m args below meth c H locs cells slots Q (F0 m pc ls (.long y :: .long x :: rest)) := by
  obtain ⟨h0, hf⟩ := q_dvl_e hf
  exact lv_ldiv hx hb hdg h0 (kk _ hf)
theorem q_lrem (hx : p.tables.exec = Jvm.exec) (hb : c.code = cc) {x y : Int64} {k : Int64 → Option β} (hdg : decode cc pc = .ok (.lrem, 1)) (hf : q_rml x y k = some r) (kk : ∀ z : Int64, k z = some r → W p l e R s m args below meth c H locs cells slots Q (F0 m (pc + 1) ls (.long z :: rest))) : W p l e R s m args below meth c H locs cells slots Q (F0 m pc ls (.long y :: .long x :: rest)) := by
  obtain ⟨h0, hf⟩ := q_rml_e hf
  exact lv_lrem hx hb hdg h0 (kk _ hf)
variable {D : va_G} {ci : Nat → ClassId} {A : Nat → Prop} {sa : Nat → Nat} {Wd : va_W} {a : Nat} {cl : List vw_C} {tys : List (ClassId × FieldType)} {H0 : Heap}
theorem q_iald (hx : p.tables.exec = Jvm.exec) (hb : c.code = cc) (hK : va_K D cl tys s) (hP : va_P D cl Wd H) (q0 t0 : Nat) {cA : ClassId} {n : Nat} {f : Nat → Int32} {i : Int32} {k : Int32 → Option β} (hf : q_ai f n i k = some r) (ha : Wd[q0]? = some (a, .inl (cA, n, .inl f))) (ht : tys[t0]? = some (cA, .int)) (hdg : decode cc pc = .ok (.iaload, 1))
    (kk : ∀ z : Int32, k z = some r → W p l e R s m args below meth c H locs cells slots Q (F0 m (pc + 1) ls (.int z :: rest))) : W p l e R s m args below meth c H locs cells slots Q (F0 m pc ls (.int i :: .ref a :: rest)) := by
  obtain ⟨h0, hf⟩ := q_ai_e hf
  exact va_iald hx hb hK hP q0 t0 ha ht h0 hdg (kk _ hf)
theorem q_bald (hx : p.tables.exec = Jvm.exec) (hb : c.code = cc) (hK : va_K D cl tys s) (hP : va_P D cl Wd H) (q0 t0 : Nat) {cA : ClassId} {n : Nat} {f : Nat → Int32} {i : Int32} {k : Int32 → Option β} (hf : q_ai f n i k = some r) (ha : Wd[q0]? = some (a, .inl (cA, n, .inl f))) (ht : tys[t0]? = some (cA, .byte)) (hdg : decode cc pc = .ok (.baload, 1))
    (kk : ∀ z : Int32, k z = some r → W p l e R s m args below meth c H locs cells slots Q (F0 m (pc + 1) ls (.int z :: rest))) : W p l e R s m args below meth c H locs cells slots Q (F0 m pc ls (.int i :: .ref a :: rest)) := by
  obtain ⟨h0, hf⟩ := q_ai_e hf
  exact va_bald hx hb hK hP q0 t0 ha ht h0 hdg (kk _ hf)
theorem q_lald (hx : p.tables.exec = Jvm.exec) (hb : c.code = cc) (hK : va_K D cl tys s) (hP : va_P D cl Wd H) (q0 t0 : Nat) {cA : ClassId} {n : Nat} {f : Nat → Int64} {i : Int32} {k : Int64 → Option β} (hf : q_al f n i k = some r) (ha : Wd[q0]? = some (a, .inl (cA, n, .inr (.inl f)))) (ht : tys[t0]? = some (cA, .long)) (hdg : decode cc pc = .ok (.laload, 1))
    (kk : ∀ z : Int64, k z = some r → W p l e R s m args below meth c H locs cells slots Q (F0 m (pc + 1) ls (.long z :: rest))) : W p l e R s m args below meth c H locs cells slots Q (F0 m pc ls (.int i :: .ref a :: rest)) := by
  obtain ⟨h0, hf⟩ := q_al_e hf
  exact va_lald hx hb hK hP q0 t0 ha ht h0 hdg (kk _ hf)
theorem q_iast (hx : p.tables.exec = Jvm.exec) (hb : c.code = cc) (hK : va_K D cl tys s) (hP : va_P D cl Wd H) (hD : va_D A Wd) (hS : va_S A H0 H locs) (q0 t0 : Nat) {cA : ClassId} {n : Nat} {f : Nat → Int32} {i x : Int32} {k : (Nat → Int32) → Option β} (hf : q_as f n i x k = some r) (ha : Wd[q0]? = some (a, .inl (cA, n, .inl f))) (ht : tys[t0]? = some (cA, .int)) (hdg : decode cc pc = .ok (.iastore, 1))
    (kk : ∀ (g : Nat → Int32) (H1 : Heap) (locs1 : List Loc), k g = some r → va_P D cl (Wd.set q0 (a, .inl (cA, n, .inl g))) H1 → va_D A (Wd.set q0 (a, .inl (cA, n, .inl g))) → va_S A H0 H1 locs1 → W p l e R s m args below meth c H1 locs1 cells slots Q (F0 m (pc + 1) ls rest)) : W p l e R s m args below meth c H locs cells slots Q (F0 m pc ls (.int x :: .int i :: .ref a :: rest)) := by
  obtain ⟨h0, hf⟩ := q_as_e hf
  exact va_iast hx hb hK hP hD hS q0 t0 ha ht h0 hdg (fun H1 L1 h1 h2 h3 => kk _ H1 L1 hf h1 h2 h3)
theorem q_bast (hx : p.tables.exec = Jvm.exec) (hb : c.code = cc) (hK : va_K D cl tys s) (hP : va_P D cl Wd H) (hD : va_D A Wd) (hS : va_S A H0 H locs) (q0 t0 : Nat) {cA : ClassId} {n : Nat} {f : Nat → Int32} {i x : Int32} {k : (Nat → Int32) → Option β} (hf : q_asb f n i x k = some r) (ha : Wd[q0]? = some (a, .inl (cA, n, .inl f))) (ht : tys[t0]? = some (cA, .byte)) (hdg : decode cc pc = .ok (.bastore, 1))
    (kk : ∀ (g : Nat → Int32) (H1 : Heap) (locs1 : List Loc), k g = some r → va_P D cl (Wd.set q0 (a, .inl (cA, n, .inl g))) H1 → va_D A (Wd.set q0 (a, .inl (cA, n, .inl g))) → va_S A H0 H1 locs1 → W p l e R s m args below meth c H1 locs1 cells slots Q (F0 m (pc + 1) ls rest)) : W p l e R s m args below meth c H locs cells slots Q (F0 m pc ls (.int x :: .int i :: .ref a :: rest)) := by
  obtain ⟨h0, hf⟩ := q_asb_e hf
  exact va_bast hx hb hK hP hD hS q0 t0 ha ht h0 hdg (fun H1 L1 h1 h2 h3 => kk _ H1 L1 hf h1 h2 h3)
theorem q_last (hx : p.tables.exec = Jvm.exec) (hb : c.code = cc) (hK : va_K D cl tys s) (hP : va_P D cl Wd H) (hD : va_D A Wd) (hS : va_S A H0 H locs) (q0 t0 : Nat) {cA : ClassId} {n : Nat} {f : Nat → Int64} {i : Int32} {x : Int64} {k : (Nat → Int64) → Option β} (hf : q_asl f n i x k = some r) (ha : Wd[q0]? = some (a, .inl (cA, n, .inr (.inl f)))) (ht : tys[t0]? = some (cA, .long)) (hdg : decode cc pc = .ok (.lastore, 1))
    (kk : ∀ (g : Nat → Int64) (H1 : Heap) (locs1 : List Loc), k g = some r → va_P D cl (Wd.set q0 (a, .inl (cA, n, .inr (.inl g)))) H1 → va_D A (Wd.set q0 (a, .inl (cA, n, .inr (.inl g)))) → va_S A H0 H1 locs1 → W p l e R s m args below meth c H1 locs1 cells slots Q (F0 m (pc + 1) ls rest)) : W p l e R s m args below meth c H locs cells slots Q (F0 m pc ls (.long x :: .int i :: .ref a :: rest)) := by
  obtain ⟨h0, hf⟩ := q_asl_e hf
  exact va_last hx hb hK hP hD hS q0 t0 ha ht h0 hdg (fun H1 L1 h1 h2 h3 => kk _ H1 L1 hf h1 h2 h3)
theorem q_sbld (hx : p.tables.exec = Jvm.exec) (hb : c.code = cc) {t N : Nat} {f : Nat → Int32} {i : Int32} {k : Int32 → Option β} (hf : q_ai f N i k = some r) (hT : va_T .byte t N (fun j => .int (f j)) A s s.heap) (hS : va_S A s.heap H locs) (hdg : decode cc pc = .ok (.baload, 1))
    (kk : ∀ z : Int32, k z = some r → W p l e R s m args below meth c H locs cells slots Q (F0 m (pc + 1) ls (.int z :: rest))) : W p l e R s m args below meth c H locs cells slots Q (F0 m pc ls (.int i :: .ref t :: rest)) := by
  obtain ⟨h0, hf⟩ := q_ai_e hf
  exact va_tb hx hb hT hS h0 rfl hdg (kk _ hf)
theorem q_kld (hx : p.tables.exec = Jvm.exec) (hb : c.code = cc) (hK : va_K D cl (q_tys ci) s) (hP : va_P D cl Wd H) (q0 : Nat) {g : Nat → Option Nat} {i : Int32} {k b2 : Nat} {K : Option β} (hf : q_kx i k K = some r) (ha : Wd[q0]? = some (a, .inl (ci 3, 8, .inr (.inr (.inr (.inr g)))))) (hg : g k = some b2) (hdg : decode cc pc = .ok (.aaload, 1))
    (kk : K = some r → W p l e R s m args below meth c H locs cells slots Q (F0 m (pc + 1) ls (.ref b2 :: rest))) : W p l e R s m args below meth c H locs cells slots Q (F0 m pc ls (.int i :: .ref a :: rest)) := by
  obtain ⟨rfl, hk, hf⟩ := q_kx_e hf
  refine va_aldq hx hb hK hP q0 3 ha rfl (vp_in_nI hk (by omega)) hdg ?_
  rw [nI_clamp (show k < 2 ^ 31 by omega), hg]
  exact kk hf
/-- a place of a static array -/
theorem q_sald (hx : p.tables.exec = Jvm.exec) (hb : c.code = cc) {t N : Nat} {f : Nat → Int32} {i : Int32} {k : Int32 → Option β} (hf : q_ai f N i k = some r) (hT : va_T .int t N (fun j => .int (f j)) A s s.heap) (hS : va_S A s.heap H locs) (hdg : decode cc pc = .ok (.iaload, 1))
    (kk : ∀ z : Int32, k z = some r → W p l e R s m args below meth c H locs cells slots Q (F0 m (pc + 1) ls (.int z :: rest))) : W p l e R s m args below meth c H locs cells slots Q (F0 m pc ls (.int i :: .ref t :: rest)) := by
  obtain ⟨h0, hf⟩ := q_ai_e hf
  exact va_ti hx hb hT hS h0 rfl hdg (kk _ hf)
theorem q_icmp_eq (hx : p.tables.exec = Jvm.exec) (hb : c.code = cc) {x y : Int32} {off : Int} {tgt : Nat} {cond : Prop} [dc : Decidable cond] {a b : Option β} (hdg : decode cc pc = .ok (.if_icmp .eq off, 3)) (ht : (pc : Int) + off = (tgt : Int)) (hc : cond = (x = y)) (hf : (if cond then a else b) = some r)
    (kt : a = some r → W p l e R s m args below meth c H locs cells slots Q (F0 m tgt ls rest)) (kf : b = some r → W p l e R s m args below meth c H locs cells slots Q (F0 m (pc + 3) ls rest)) : W p l e R s m args below meth c H locs cells slots Q (F0 m pc ls (.int y :: .int x :: rest)) := by
  subst hc
  rcases q_if_e hf with ⟨h1, h2⟩ | ⟨h1, h2⟩
  · exact lv_icmp_eq hx hb hdg ht (fun _ => kt h2) (fun z => absurd h1 z)
  · exact lv_icmp_eq hx hb hdg ht (fun z => absurd z h1) (fun _ => kf h2)
theorem q_icmp_ne (hx : p.tables.exec = Jvm.exec) (hb : c.code = cc) {x y : Int32} {off : Int} {tgt : Nat} {cond : Prop} [dc : Decidable cond] {a b : Option β} (hdg : decode cc pc = .ok (.if_icmp .ne off, 3)) (ht : (pc : Int) + off = (tgt : Int)) (hc : cond = (x = y)) (hf : (if cond then b else a) = some r)
    (kt : a = some r → W p l e R s m args below meth c H locs cells slots Q (F0 m tgt ls rest)) (kf : b = some r → W p l e R s m args below meth c H locs cells slots Q (F0 m (pc + 3) ls rest)) : W p l e R s m args below meth c H locs cells slots Q (F0 m pc ls (.int y :: .int x :: rest)) := by
  subst hc
  rcases q_if_e hf with ⟨h1, h2⟩ | ⟨h1, h2⟩
  · exact lv_icmp_ne hx hb hdg ht (fun z => absurd h1 z) (fun _ => kf h2)
  · exact lv_icmp_ne hx hb hdg ht (fun _ => kt h2) (fun z => absurd z h1)
theorem q_icmp_lt (hx : p.tables.exec = Jvm.exec) (hb : c.code = cc) {x y : Int32} {off : Int} {tgt : Nat} {cond : Prop} [dc : Decidable cond] {a b : Option β} (hdg : decode cc pc = .ok (.if_icmp .lt off, 3)) (ht : (pc : Int) + off = (tgt : Int)) (hc : cond = (x < y)) (hf : (if cond then a else b) = some r)
    (kt : a = some r → W p l e R s m args below meth c H locs cells slots Q (F0 m tgt ls rest)) (kf : b = some r → W p l e R s m args below meth c H locs cells slots Q (F0 m (pc + 3) ls rest)) : W p l e R s m args below meth c H locs cells slots Q (F0 m pc ls (.int y :: .int x :: rest)) := by
  subst hc
  rcases q_if_e hf with ⟨h1, h2⟩ | ⟨h1, h2⟩
  · exact lv_icmp_lt hx hb hdg ht (fun _ => kt h2) (fun z => absurd h1 z)
  · exact lv_icmp_lt hx hb hdg ht (fun z => absurd z h1) (fun _ => kf h2)
theorem q_icmp_ge (hx : p.tables.exec = Jvm.exec) (hb : c.code = cc) {x y : Int32} {off : Int} {tgt : Nat} {cond : Prop} [dc : Decidable cond] {a b : Option β} (hdg : decode cc pc = .ok (.if_icmp .ge off, 3)) (ht : (pc : Int) + off = (tgt : Int)) (hc : cond = (y ≤ x)) (hf : (if cond then a else b) = some r)
    (kt : a = some r → W p l e R s m args below meth c H locs cells slots Q (F0 m tgt ls rest)) (kf : b = some r → W p l e R s m args below meth c H locs cells slots Q (F0 m (pc + 3) ls rest)) : W p l e R s m args below meth c H locs cells slots Q (F0 m pc ls (.int y :: .int x :: rest)) := by
  subst hc
  rcases q_if_e hf with ⟨h1, h2⟩ | ⟨h1, h2⟩
  · exact lv_icmp_ge hx hb hdg ht (fun _ => kt h2) (fun z => absurd h1 z)
  · exact lv_icmp_ge hx hb hdg ht (fun z => absurd z h1) (fun _ => kf h2)
theorem q_icmp_gt (hx : p.tables.exec = Jvm.exec) (hb : c.code = cc) {x y : Int32} {off : Int} {tgt : Nat} {cond : Prop} [dc : Decidable cond] {a b : Option β} (hdg : decode cc pc = .ok (.if_icmp .gt off, 3)) (ht : (pc : Int) + off = (tgt : Int)) (hc : cond = (y < x)) (hf : (if cond then a else b) = some r)
    (kt : a = some r → W p l e R s m args below meth c H locs cells slots Q (F0 m tgt ls rest)) (kf : b = some r → W p l e R s m args below meth c H locs cells slots Q (F0 m (pc + 3) ls rest)) : W p l e R s m args below meth c H locs cells slots Q (F0 m pc ls (.int y :: .int x :: rest)) := by
  subst hc
  rcases q_if_e hf with ⟨h1, h2⟩ | ⟨h1, h2⟩
  · exact lv_icmp_gt hx hb hdg ht (fun _ => kt h2) (fun z => absurd h1 z)
  · exact lv_icmp_gt hx hb hdg ht (fun z => absurd z h1) (fun _ => kf h2)
theorem q_icmp_le (hx : p.tables.exec = Jvm.exec) (hb : c.code = cc) {x y : Int32} {off : Int} {tgt : Nat} {cond : Prop} [dc : Decidable cond] {a b : Option β} (hdg : decode cc pc = .ok (.if_icmp .le off, 3)) (ht : (pc : Int) + off = (tgt : Int)) (hc : cond = (x ≤ y)) (hf : (if cond then a else b) = some r)
    (kt : a = some r → W p l e R s m args below meth c H locs cells slots Q (F0 m tgt ls rest)) (kf : b = some r → W p l e R s m args below meth c H locs cells slots Q (F0 m (pc + 3) ls rest)) : W p l e R s m args below meth c H locs cells slots Q (F0 m pc ls (.int y :: .int x :: rest)) := by
  subst hc
  rcases q_if_e hf with ⟨h1, h2⟩ | ⟨h1, h2⟩
  · exact lv_icmp_le hx hb hdg ht (fun _ => kt h2) (fun z => absurd h1 z)
  · exact lv_icmp_le hx hb hdg ht (fun z => absurd z h1) (fun _ => kf h2)
theorem q_if_eq (hx : p.tables.exec = Jvm.exec) (hb : c.code = cc) {x : Int32} {off : Int} {tgt : Nat} {cond : Prop} [dc : Decidable cond] {a b : Option β} (hdg : decode cc pc = .ok (.ifCond .eq off, 3)) (ht : (pc : Int) + off = (tgt : Int)) (hc : cond = (x = 0)) (hf : (if cond then a else b) = some r)
    (kt : a = some r → W p l e R s m args below meth c H locs cells slots Q (F0 m tgt ls rest)) (kf : b = some r → W p l e R s m args below meth c H locs cells slots Q (F0 m (pc + 3) ls rest)) : W p l e R s m args below meth c H locs cells slots Q (F0 m pc ls (.int x :: rest)) := by
  subst hc
  rcases q_if_e hf with ⟨h1, h2⟩ | ⟨h1, h2⟩
  · exact lv_if_eq hx hb hdg ht (fun _ => kt h2) (fun z => absurd h1 z)
  · exact lv_if_eq hx hb hdg ht (fun z => absurd z h1) (fun _ => kf h2)
theorem q_if_ne (hx : p.tables.exec = Jvm.exec) (hb : c.code = cc) {x : Int32} {off : Int} {tgt : Nat} {cond : Prop} [dc : Decidable cond] {a b : Option β} (hdg : decode cc pc = .ok (.ifCond .ne off, 3)) (ht : (pc : Int) + off = (tgt : Int)) (hc : cond = (x = 0)) (hf : (if cond then b else a) = some r)
    (kt : a = some r → W p l e R s m args below meth c H locs cells slots Q (F0 m tgt ls rest)) (kf : b = some r → W p l e R s m args below meth c H locs cells slots Q (F0 m (pc + 3) ls rest)) : W p l e R s m args below meth c H locs cells slots Q (F0 m pc ls (.int x :: rest)) := by
  subst hc
  rcases q_if_e hf with ⟨h1, h2⟩ | ⟨h1, h2⟩
  · exact lv_if_ne hx hb hdg ht (fun z => absurd h1 z) (fun _ => kf h2)
  · exact lv_if_ne hx hb hdg ht (fun _ => kt h2) (fun z => absurd z h1)
theorem q_if_lt (hx : p.tables.exec = Jvm.exec) (hb : c.code = cc) {x : Int32} {off : Int} {tgt : Nat} {cond : Prop} [dc : Decidable cond] {a b : Option β} (hdg : decode cc pc = .ok (.ifCond .lt off, 3)) (ht : (pc : Int) + off = (tgt : Int)) (hc : cond = (x < 0)) (hf : (if cond then a else b) = some r)
    (kt : a = some r → W p l e R s m args below meth c H locs cells slots Q (F0 m tgt ls rest)) (kf : b = some r → W p l e R s m args below meth c H locs cells slots Q (F0 m (pc + 3) ls rest)) : W p l e R s m args below meth c H locs cells slots Q (F0 m pc ls (.int x :: rest)) := by
  subst hc
  rcases q_if_e hf with ⟨h1, h2⟩ | ⟨h1, h2⟩
  · exact lv_if_lt hx hb hdg ht (fun _ => kt h2) (fun z => absurd h1 z)
  · exact lv_if_lt hx hb hdg ht (fun z => absurd z h1) (fun _ => kf h2)
theorem q_if_ge (hx : p.tables.exec = Jvm.exec) (hb : c.code = cc) {x : Int32} {off : Int} {tgt : Nat} {cond : Prop} [dc : Decidable cond] {a b : Option β} (hdg : decode cc pc = .ok (.ifCond .ge off, 3)) (ht : (pc : Int) + off = (tgt : Int)) (hc : cond = (0 ≤ x)) (hf : (if cond then a else b) = some r)
    (kt : a = some r → W p l e R s m args below meth c H locs cells slots Q (F0 m tgt ls rest)) (kf : b = some r → W p l e R s m args below meth c H locs cells slots Q (F0 m (pc + 3) ls rest)) : W p l e R s m args below meth c H locs cells slots Q (F0 m pc ls (.int x :: rest)) := by
  subst hc
  rcases q_if_e hf with ⟨h1, h2⟩ | ⟨h1, h2⟩
  · exact lv_if_ge hx hb hdg ht (fun _ => kt h2) (fun z => absurd h1 z)
  · exact lv_if_ge hx hb hdg ht (fun z => absurd z h1) (fun _ => kf h2)
theorem q_if_gt (hx : p.tables.exec = Jvm.exec) (hb : c.code = cc) {x : Int32} {off : Int} {tgt : Nat} {cond : Prop} [dc : Decidable cond] {a b : Option β} (hdg : decode cc pc = .ok (.ifCond .gt off, 3)) (ht : (pc : Int) + off = (tgt : Int)) (hc : cond = (0 < x)) (hf : (if cond then a else b) = some r)
    (kt : a = some r → W p l e R s m args below meth c H locs cells slots Q (F0 m tgt ls rest)) (kf : b = some r → W p l e R s m args below meth c H locs cells slots Q (F0 m (pc + 3) ls rest)) : W p l e R s m args below meth c H locs cells slots Q (F0 m pc ls (.int x :: rest)) := by
  subst hc
  rcases q_if_e hf with ⟨h1, h2⟩ | ⟨h1, h2⟩
  · exact lv_if_gt hx hb hdg ht (fun _ => kt h2) (fun z => absurd h1 z)
  · exact lv_if_gt hx hb hdg ht (fun z => absurd z h1) (fun _ => kf h2)
theorem q_if_le (hx : p.tables.exec = Jvm.exec) (hb : c.code = cc) {x : Int32} {off : Int} {tgt : Nat} {cond : Prop} [dc : Decidable cond] {a b : Option β} (hdg : decode cc pc = .ok (.ifCond .le off, 3)) (ht : (pc : Int) + off = (tgt : Int)) (hc : cond = (x ≤ 0)) (hf : (if cond then a else b) = some r)
    (kt : a = some r → W p l e R s m args below meth c H locs cells slots Q (F0 m tgt ls rest)) (kf : b = some r → W p l e R s m args below meth c H locs cells slots Q (F0 m (pc + 3) ls rest)) : W p l e R s m args below meth c H locs cells slots Q (F0 m pc ls (.int x :: rest)) := by
  subst hc
  rcases q_if_e hf with ⟨h1, h2⟩ | ⟨h1, h2⟩
  · exact lv_if_le hx hb hdg ht (fun _ => kt h2) (fun z => absurd h1 z)
  · exact lv_if_le hx hb hdg ht (fun z => absurd z h1) (fun _ => kf h2)
theorem q_call {v0 : Option Value} {B : State → Prop} {mc ms : Nat} {st0 : List Value} {aa : Array Value} (hr : va_Run p l e R s m args below meth c H locs cells slots mc ms (F0 m pc ls st0) rest (q_Q v0 B A aa) A) (hS : va_S A s.heap H locs)
    (kk : ∀ (t : State) (locs1 : List Loc), s.vm.Alike t.vm → B t → va_S A s.heap t.heap locs1 → W p l e R s m args below meth c t.heap locs1 (cells + mc) (slots + ms) Q (F0 m (pc + 3) ls (v0.toList ++ rest))) : W p l e R s m args below meth c H locs cells slots Q (F0 m pc ls st0) := by
  intro T hT X
  obtain ⟨v, st₀, t, T', L, h0, X', hL, e1, e2, ⟨hv, hB, hz, hk⟩, st⟩ := hr T hT X
  cases hv
  rw [h0] at hz hk
  obtain ⟨t2, a1, b1⟩ := kk t (locs ++ L) (by rw [← e2]; exact X'.warmed.alike) hB
    ⟨Nat.le_trans hS.1 hz, fun q h1 h2 => by rw [hk q (Nat.lt_of_lt_of_le h1 hS.1) h2]; exact hS.2.1 q h1 h2, fun q hq => by
      rcases List.mem_append.mp hq with h | h
      · exact hS.2.2 q h
      · exact hL q h⟩ T' e1 X'
  exact ⟨t2, st t2 a1, b1⟩
theorem q_callR {v0 : Option Value} {mc ms : Nat} {st0 : List Value} {aa : Array Value} (hr : va_Run p l e R s m args below meth c H locs cells slots mc ms (F0 m pc ls st0) rest (q_R v0 aa) A) (hS : va_S A s.heap H locs)
    (kk : ∀ (locs1 : List Loc), va_S A s.heap H locs1 → W p l e R s m args below meth c H locs1 (cells + mc) (slots + ms) Q (F0 m (pc + 3) ls (v0.toList ++ rest))) : W p l e R s m args below meth c H locs cells slots Q (F0 m pc ls st0) := by
  intro T hT X
  obtain ⟨v, st₀, t, T', L, h0, X', hL, e1, e2, ⟨hv, hz⟩, st⟩ := hr T hT X
  cases hv
  obtain ⟨t2, a1, b1⟩ := kk (locs ++ L) ⟨hS.1, hS.2.1, fun q hq => by
      rcases List.mem_append.mp hq with h | h
      · exact hS.2.2 q h
      · exact hL q h⟩ T' (by rw [e1, hz, h0]) X'
  exact ⟨t2, st t2 a1, b1⟩
theorem q_preS {W1 : va_W} {n1 : Nat} {is1 : List Nat} (hK : va_K D vwCl (q_tys ci) s) (hA : ∀ q : Nat, s.heap.size ≤ q → A q) (hZ : q_Z A sa s) (hP : va_P D vwCl Wd H) (hD : va_D A Wd) (hS : va_S A s.heap H locs) (hp1 : q_pk n1 is1 Wd = W1) (hn1 : q_ok n1 is1 Wd) {As : List Value} : PreS s H (va_Pc As (q_N D ci A sa W1)) As := by
  refine ⟨q_blind, fun U hU hW => ⟨rfl, ?_, q_pk_D hD hp1 hn1, hK.moved hW.alike, fun q h => hA q (Nat.le_trans hS.1 (by rw [hU] at h; exact h)), hZ.go hW (fun a h1 h2 => by rw [hU]; exact hS.2.1 a h1 h2)⟩⟩
  rw [hU]; exact q_pk_P hP hp1
theorem q_preV {W1 : va_W} {n1 : Nat} {is1 : List Nat} (hK : va_K D vwCl (q_tys ci) s) (hA : ∀ q : Nat, s.heap.size ≤ q → A q) (hZ : q_Z A sa s) (hP : va_P D vwCl Wd H) (hD : va_D A Wd) (hS : va_S A s.heap H locs) (hp1 : q_pk n1 is1 Wd = W1) (hn1 : q_ok n1 is1 Wd) {As : List Value} {b : Nat} (q0 : Nat) {k : Nat} {fs : List Value} {C : String} {T : u_T} {N : Nat} (he : Wd[q0]? = some (b, .inr (k, fs))) (hc : vwCl[k]? = some (C, T, N)) : PreV s H C b (va_Pc (.ref b :: As) (q_N D ci A sa W1)) As :=
  ⟨q_blind, va_recv hK hP hc he, (q_preS (As := .ref b :: As) hK hA hZ hP hD hS hp1 hn1).2⟩
variable {y : MethodName} {bytes : ByteArray} {maxL nL n index : Nat} {ret : Option FieldType} {wsc Ts : List Cond} {rm : Room} {own : String} {st0 : List Value} {v0 : Option Value} {W1 W2 W3 : va_W} {n1 n2 : Nat} {is1 is2 : List Nat} {As : List Value} {b : Nat}
theorem q_front {D : va_G} {cl : List vw_C} {A : Nat → Prop} {Wd : va_W} {x : Nat × va_E} {H1 : Heap} (hP1 : va_P D cl (Wd ++ [x]) H1) (hD1 : va_D A (Wd ++ [x])) : va_P D cl (x :: Wd) H1 ∧ va_D A (x :: Wd) := by
  have mm : ∀ z, z ∈ x :: Wd → z ∈ Wd ++ [x] := by
    intro z hz
    rcases List.mem_cons.mp hz with h | h
    · exact List.mem_append_right _ (by rw [h]; exact List.mem_singleton.mpr rfl)
    · exact List.mem_append_left _ h
  refine ⟨?_, ?_⟩
  · intro k2 z hz
    obtain ⟨j, hj⟩ := List.getElem?_of_mem (mm z (List.mem_of_getElem? hz))
    exact hP1 j z hj
  · refine ⟨?_, fun k2 z hz => ?_⟩
    · have key : ∀ (i : Nat) (z : Nat × va_E), (x :: Wd)[i]? = some z → (Wd ++ [x])[if i = 0 then Wd.length else i - 1]? = some z := by
        intro i z hz
        cases i with
        | zero =>
          rw [if_pos rfl]
          rw [List.getElem?_append_right (Nat.le_refl _), Nat.sub_self]
          exact hz
        | succ i =>
          have hz : Wd[i]? = some z := hz
          rw [if_neg (Nat.succ_ne_zero i), Nat.add_sub_cancel, List.getElem?_append_left (List.getElem?_eq_some_iff.mp hz).1]
          exact hz
      have lt : ∀ (i : Nat) (z : Nat × va_E), (x :: Wd)[i]? = some z → i ≤ Wd.length := by
        intro i z hz
        have := (List.getElem?_eq_some_iff.mp hz).1
        rw [List.length_cons] at this
        omega
      intro i j z1 z2 h1 h2 e
      have h := hD1.1 _ _ z1 z2 (key i z1 h1) (key j z2 h2) e
      have a1 := lt i z1 h1
      have a2 := lt j z2 h2
      by_cases b1 : i = 0
      · by_cases b2 : j = 0
        · omega
        · rw [if_pos b1, if_neg b2] at h; omega
      · by_cases b2 : j = 0
        · rw [if_neg b1, if_pos b2] at h; omega
        · rw [if_neg b1, if_neg b2] at h; omega
    · obtain ⟨j, hj⟩ := List.getElem?_of_mem (mm z (List.mem_of_getElem? hz))
      exact hD1.2 j z hj
theorem q_new {own C : String} {T : u_T} {N k index : Nat} {Ts : List Cond} (hx : p.tables.exec = Jvm.exec) (hb : c.code = cc) (hts : ∀ w ∈ Ts, w.before args s = true) (hin : ∀ w ∈ u_ws C T N, w ∈ Ts) (ty : Nat → FieldType) (hty : ∀ k, k < N → parseFieldDescriptor (T k).2.2.1 = some (ty k)) (hown : s.vm.findClass own = some m.cls) (hcl : (Cond.classLink own index C).before args s = true) (hinst : (Cond.instantiable C N).before args s = true) (hini : (Cond.initialized C).before args s = true) (hK : va_K D vwCl (q_tys ci) s) (hA : ∀ q : Nat, s.heap.size ≤ q → A q) (hP : va_P D vwCl Wd H) (hD : va_D A Wd) (hS : va_S A s.heap H locs) (hc : vwCl[k]? = some (C, T, N)) {fs : List Value} (hfs : ∀ j, j < N → defaultValue (ty j) = vp_V fs j) (hcells : cells + 1 ≤ R.cells) (hslots : slots + N ≤ R.slots) (hdg : decode cc pc = .ok (.new index, 3))
    (kk : ∀ (q : Nat) (H1 : Heap), va_P D vwCl ((q, .inr (k, fs)) :: Wd) H1 → va_D A ((q, .inr (k, fs)) :: Wd) → va_S A s.heap H1 locs → W p l e R s m args below meth c H1 locs (cells + 1) (slots + N) Q (F0 m (pc + 3) ls (.ref q :: rest))) : W p l e R s m args below meth c H locs cells slots Q (F0 m pc ls rest) :=
  va_new hx hb hts hin ty hty hown hcl hinst hini hK hP hD hS hA hc hfs hcells hslots hdg (fun q H1 h1 h2 h3 => kk q H1 (q_front h1 h2).1 (q_front h1 h2).2 h3)
theorem q_nwi {n : Int32} {L : Nat} (hx : p.tables.exec = Jvm.exec) (hb : c.code = cc) (harr : (Cond.arrayClass .int).before args s = true) (hK : va_K D vwCl (q_tys ci) s) (hA : ∀ q : Nat, s.heap.size ≤ q → A q) (hP : va_P D vwCl Wd H) (hD : va_D A Wd) (hS : va_S A s.heap H locs) (hn : ¬ n < 0) (hL : n.toNatClampNeg = L) (hb4 : L * 4 ≤ 536870912) (hcells : cells + 1 ≤ R.cells) (hslots : slots + L ≤ R.slots) (hdg : decode cc pc = .ok (.newarray .int, 2))
    (kk : ∀ (q : Nat) (H1 : Heap), va_P D vwCl ((q, .inl (ci 0, L, .inl (fun _ => 0))) :: Wd) H1 → va_D A ((q, .inl (ci 0, L, .inl (fun _ => 0))) :: Wd) → va_S A s.heap H1 locs → W p l e R s m args below meth c H1 locs (cells + 1) (slots + L) Q (F0 m (pc + 2) ls (.ref q :: rest))) : W p l e R s m args below meth c H locs cells slots Q (F0 m pc ls (.int n :: rest)) := by
  refine va_newa (atype := .int) hx hb harr (ty := .int) rfl hK hP hD hS hA (N' := L) (a0 := (L, .inl (fun _ => 0))) (fun cA => rfl) hn hL hb4 hcells hslots hdg ?_
  intro q cA H1 hK1 hP1 hD1 hS1
  have e1 : va_RA s cA .int := (hK1.2 4 (cA, .int) rfl).2
  have e2 : va_RA s (ci 0) .int := (hK.2 0 (ci 0, .int) rfl).2
  have e3 : cA = ci 0 := Option.some.inj (e1.symm.trans e2)
  subst e3
  exact kk q H1 (q_front hP1 hD1).1 (q_front hP1 hD1).2 hS1
theorem q_nwq {n : Int32} {L : Nat} {own : String} {index : Nat} (hx : p.tables.exec = Jvm.exec) (hb : c.code = cc) (hown : s.vm.findClass own = some m.cls) (hcl : (Cond.classLink own index "SheetNames$Atlas").before args s = true) (hov : va_AO "SheetNames$Atlas" s) (hK : va_K D vwCl (q_tys ci) s) (hA : ∀ q : Nat, s.heap.size ≤ q → A q) (hP : va_P D vwCl Wd H) (hD : va_D A Wd) (hS : va_S A s.heap H locs) (hn : ¬ n < 0) (hL : n.toNatClampNeg = L) (hb4 : L * 4 ≤ 536870912) (hcells : cells + 1 ≤ R.cells) (hslots : slots + L ≤ R.slots) (hdg : decode cc pc = .ok (.anewarray index, 3))
    (kk : ∀ (q : Nat) (H1 : Heap), va_P D vwCl ((q, .inl (ci 3, L, .inr (.inr (.inr (.inr (fun _ => none)))))) :: Wd) H1 → va_D A ((q, .inl (ci 3, L, .inr (.inr (.inr (.inr (fun _ => none)))))) :: Wd) → va_S A s.heap H1 locs → W p l e R s m args below meth c H1 locs (cells + 1) (slots + L) Q (F0 m (pc + 3) ls (.ref q :: rest))) : W p l e R s m args below meth c H locs cells slots Q (F0 m pc ls (.int n :: rest)) := by
  refine va_newq hx hb hown hcl hov hK hP hD hS hA hn hL hb4 hcells hslots hdg ?_
  intro q cA H1 hK1 hP1 hD1 hS1
  obtain ⟨kA1, co1, -, -, -, e1⟩ := (hK1.2 4 (cA, .object "SheetNames$Atlas") rfl).2
  obtain ⟨kA2, co2, -, -, -, e2⟩ := (hK.2 3 (ci 3, .object "SheetNames$Atlas") rfl).2
  have e3 : cA = ci 3 := Option.some.inj (e1.symm.trans e2)
  subst e3
  exact kk q H1 (q_front hP1 hD1).1 (q_front hP1 hD1).2 hS1
theorem q_nwl {n : Int32} {L : Nat} (hx : p.tables.exec = Jvm.exec) (hb : c.code = cc) (harr : (Cond.arrayClass .long).before args s = true) (hK : va_K D vwCl (q_tys ci) s) (hA : ∀ q : Nat, s.heap.size ≤ q → A q) (hP : va_P D vwCl Wd H) (hD : va_D A Wd) (hS : va_S A s.heap H locs) (hn : ¬ n < 0) (hL : n.toNatClampNeg = L) (hb4 : L * 8 ≤ 536870912) (hcells : cells + 1 ≤ R.cells) (hslots : slots + L ≤ R.slots) (hdg : decode cc pc = .ok (.newarray .long, 2))
    (kk : ∀ (q : Nat) (H1 : Heap), va_P D vwCl ((q, .inl (ci 1, L, .inr (.inl (fun _ => 0)))) :: Wd) H1 → va_D A ((q, .inl (ci 1, L, .inr (.inl (fun _ => 0)))) :: Wd) → va_S A s.heap H1 locs → W p l e R s m args below meth c H1 locs (cells + 1) (slots + L) Q (F0 m (pc + 2) ls (.ref q :: rest))) : W p l e R s m args below meth c H locs cells slots Q (F0 m pc ls (.int n :: rest)) := by
  refine va_newa (atype := .long) hx hb harr (ty := .long) rfl hK hP hD hS hA (N' := L) (a0 := (L, .inr (.inl (fun _ => 0)))) (fun cA => rfl) hn hL hb4 hcells hslots hdg ?_
  intro q cA H1 hK1 hP1 hD1 hS1
  have e1 : va_RA s cA .long := (hK1.2 4 (cA, .long) rfl).2
  have e2 : va_RA s (ci 1) .long := (hK.2 1 (ci 1, .long) rfl).2
  have e3 : cA = ci 1 := Option.some.inj (e1.symm.trans e2)
  subst e3
  exact kk q H1 (q_front hP1 hD1).1 (q_front hP1 hD1).2 hS1
theorem q_nwb {n : Int32} {L : Nat} (hx : p.tables.exec = Jvm.exec) (hb : c.code = cc) (harr : (Cond.arrayClass .byte).before args s = true) (hK : va_K D vwCl (q_tys ci) s) (hA : ∀ q : Nat, s.heap.size ≤ q → A q) (hP : va_P D vwCl Wd H) (hD : va_D A Wd) (hS : va_S A s.heap H locs) (hn : ¬ n < 0) (hL : n.toNatClampNeg = L) (hb4 : L * 1 ≤ 536870912) (hcells : cells + 1 ≤ R.cells) (hslots : slots + L ≤ R.slots) (hdg : decode cc pc = .ok (.newarray .byte, 2))
    (kk : ∀ (q : Nat) (H1 : Heap), va_P D vwCl ((q, .inl (ci 2, L, .inl (fun _ => 0))) :: Wd) H1 → va_D A ((q, .inl (ci 2, L, .inl (fun _ => 0))) :: Wd) → va_S A s.heap H1 locs → W p l e R s m args below meth c H1 locs (cells + 1) (slots + L) Q (F0 m (pc + 2) ls (.ref q :: rest))) : W p l e R s m args below meth c H locs cells slots Q (F0 m pc ls (.int n :: rest)) := by
  refine va_newa (atype := .byte) hx hb harr (ty := .byte) rfl hK hP hD hS hA (N' := L) (a0 := (L, .inl (fun _ => 0))) (fun cA => rfl) hn hL hb4 hcells hslots hdg ?_
  intro q cA H1 hK1 hP1 hD1 hS1
  have e1 : va_RA s cA .byte := (hK1.2 4 (cA, .byte) rfl).2
  have e2 : va_RA s (ci 2) .byte := (hK.2 2 (ci 2, .byte) rfl).2
  have e3 : cA = ci 2 := Option.some.inj (e1.symm.trans e2)
  subst e3
  exact kk q H1 (q_front hP1 hD1).1 (q_front hP1 hD1).2 hS1
/-- a constructor's call: it makes cells, their addresses come with the world behind it -/
theorem q_cI {mc ms : Nat} {y : MethodName} {bytes : ByteArray} {maxL nL n index : Nat} {wsc Ts : List Cond} {rm : Room} {own : String} {st0 : List Value} {W1 : va_W} {n1 : Nat} {W2x W3x : (Nat → Nat) → va_W} {As : List Value} {b : Nat} (S : CallFix p m c cc nL s args Ts own) (hK : va_K D vwCl (q_tys ci) s) (hA : ∀ q : Nat, s.heap.size ≤ q → A q) (hZ : q_Z A sa s) (hP : va_P D vwCl Wd H) (hD : va_D A Wd) (hS : va_S A s.heap H locs) (hl : ls.size = nL)
    (is1 : List Nat) (n1 : Nat) (hp1 : q_pk n1 is1 Wd = W1) (hn1 : q_ok n1 is1 Wd) (hM : Met l y wsc rm (va_Pc (.ref b :: As) (q_N D ci A sa W1)) (q_Q none (fun t => ∃ ad : Nat → Nat, q_O D A (W2x ad) t) A) mc ms A)
    (cw : CallB R s args own index y bytes maxL none wsc rm mc ms n ∧ y.name = "<init>" ∧ (Cond.instanceMethod y).before args s = true) (hn : As.length = n) (hst : st0 = As.reverse ++ .ref b :: rest) (hW : (rest.map fun v => v.category).sum ≤ 8) (hdg : decode cc pc = .ok (.invokespecial index, 3)) (hf : cells + mc ≤ R.cells ∧ slots + ms ≤ R.slots)
    (is2 : List Nat) (n2 : Nat) (hp2 : ∀ ad, q_pk n2 is2 (W2x ad) = W3x ad) (hn2 : ∀ ad, q_ok n2 is2 (W2x ad))
    (kk : ∀ (ad : Nat → Nat) (H1 : Heap) (locs1 : List Loc), va_P D vwCl (W3x ad) H1 → va_D A (W3x ad) → va_S A s.heap H1 locs1 → W p l e R s m args below meth c H1 locs1 (cells + mc) (slots + ms) Q (F0 m (pc + 3) ls rest)) : W p l e R s m args below meth c H locs cells slots Q (F0 m pc ls st0) :=
  q_call (va_runI (As := As) (rest := rest) S hM cw (q_preS (As := .ref b :: As) hK hA hZ hP hD hS hp1 hn1) rfl hn hl hst (lv_room hW) hdg hf) hS (fun t locs1 _ hB hS1 => by
    obtain ⟨ad, hB⟩ := hB
    exact kk ad t.heap locs1 (q_pk_P hB.1 (hp2 ad)) (q_pk_D hB.2 (hp2 ad) (hn2 ad)) hS1)
theorem q_cIN {host : String} {mc ms : Nat} {y : MethodName} {bytes : ByteArray} {maxL nL n index : Nat} {wsc Ts : List Cond} {rm : Room} {own : String} {st0 : List Value} {W1 : va_W} {n1 : Nat} {W2x W3x : (Nat → Nat) → va_W} {As : List Value} {b : Nat} (S : CallFix p m c cc nL s args Ts own) (hK : va_K D vwCl (q_tys ci) s) (hA : ∀ q : Nat, s.heap.size ≤ q → A q) (hZ : q_Z A sa s) (hP : va_P D vwCl Wd H) (hD : va_D A Wd) (hS : va_S A s.heap H locs) (hl : ls.size = nL)
    (is1 : List Nat) (n1 : Nat) (hp1 : q_pk n1 is1 Wd = W1) (hn1 : q_ok n1 is1 Wd) (hM : Met l y wsc rm (va_Pc (.ref b :: As) (q_N D ci A sa W1)) (q_Q none (fun t => ∃ ad : Nat → Nat, q_O D A (W2x ad) t) A) mc ms A)
    (cw : va_CN R s args own index y host bytes maxL none wsc rm mc ms n ∧ y.name = "<init>" ∧ (Cond.instanceMethod y).before args s = true) (hn : As.length = n) (hst : st0 = As.reverse ++ .ref b :: rest) (hW : (rest.map fun v => v.category).sum ≤ 8) (hdg : decode cc pc = .ok (.invokespecial index, 3)) (hf : cells + mc ≤ R.cells ∧ slots + ms ≤ R.slots)
    (is2 : List Nat) (n2 : Nat) (hp2 : ∀ ad, q_pk n2 is2 (W2x ad) = W3x ad) (hn2 : ∀ ad, q_ok n2 is2 (W2x ad))
    (kk : ∀ (ad : Nat → Nat) (H1 : Heap) (locs1 : List Loc), va_P D vwCl (W3x ad) H1 → va_D A (W3x ad) → va_S A s.heap H1 locs1 → W p l e R s m args below meth c H1 locs1 (cells + mc) (slots + ms) Q (F0 m (pc + 3) ls rest)) : W p l e R s m args below meth c H locs cells slots Q (F0 m pc ls st0) :=
  q_call (va_runIN (As := As) (rest := rest) S hM cw (q_preS (As := .ref b :: As) hK hA hZ hP hD hS hp1 hn1) rfl hn hl hst (lv_room hW) hdg hf) hS (fun t locs1 _ hB hS1 => by
    obtain ⟨ad, hB⟩ := hB
    exact kk ad t.heap locs1 (q_pk_P hB.1 (hp2 ad)) (q_pk_D hB.2 (hp2 ad) (hn2 ad)) hS1)
theorem q_newi (hx : p.tables.exec = Jvm.exec) (hb : c.code = cc) {L : Nat} {x : Int32} {k : Option β} {r : β} (harr : (Cond.arrayClass .int).before args s = true) (hK : va_K D vwCl (q_tys ci) s) (hA : ∀ q : Nat, s.heap.size ≤ q → A q) (hP : va_P D vwCl Wd H) (hD : va_D A Wd) (hS : va_S A s.heap H locs) (hf : q_na x L k = some r) (hcells : cells + 1 ≤ R.cells) (hslots : slots + L ≤ R.slots) (hdg : decode cc pc = .ok (.newarray .int, 2))
    (kk : ∀ (q : Nat) (H1 : Heap), k = some r → va_P D vwCl ((q, .inl (ci 0, L, .inl (fun _ => 0))) :: Wd) H1 → va_D A ((q, .inl (ci 0, L, .inl (fun _ => 0))) :: Wd) → va_S A s.heap H1 locs → W p l e R s m args below meth c H1 locs (cells + 1) (slots + L) Q (F0 m (pc + 2) ls (.ref q :: rest))) : W p l e R s m args below meth c H locs cells slots Q (F0 m pc ls (.int x :: rest)) := by
  obtain ⟨h0, h1, h2, hf⟩ := q_na_e hf
  refine va_newa (atype := .int) hx hb harr (ty := .int) rfl hK hP hD hS hA (N' := L) (a0 := (L, .inl (fun _ => 0))) (fun cA => rfl) h0 h1 h2 hcells hslots hdg ?_
  intro q cA H1 hK1 hP1 hD1 hS1
  have e1 : va_RA s cA .int := (hK1.2 4 (cA, .int) rfl).2
  have e2 : va_RA s (ci 0) .int := (hK.2 0 (ci 0, .int) rfl).2
  have e3 : cA = ci 0 := Option.some.inj (e1.symm.trans e2)
  subst e3
  exact kk q H1 hf (q_front hP1 hD1).1 (q_front hP1 hD1).2 hS1
/-- a virtual call that writes -/
theorem q_cV (S : CallFix p m c cc nL s args Ts own) (hK : va_K D vwCl (q_tys ci) s) (hA : ∀ q : Nat, s.heap.size ≤ q → A q) (hZ : q_Z A sa s) (hP : va_P D vwCl Wd H) (hD : va_D A Wd) (hS : va_S A s.heap H locs) (hl : ls.size = nL)
    (is1 : List Nat) (n1 : Nat) (hp1 : q_pk n1 is1 Wd = W1) (hn1 : q_ok n1 is1 Wd) (hM : Met l y wsc rm (va_Pc (.ref b :: As) (q_N D ci A sa W1)) (q_Q v0 (q_O D A W2) A) 0 0 A)
    (q0 : Nat) {k : Nat} {fs : List Value} {C : String} {T : u_T} {N : Nat} (he : Wd[q0]? = some (b, .inr (k, fs))) (hc : vwCl[k]? = some (C, T, N)) (cw : CallW R s args own C index y bytes maxL ret wsc rm 0 0 n) (hn : As.length = n) (hst : st0 = As.reverse ++ .ref b :: rest) (hW : (rest.map fun v => v.category).sum ≤ 8) (hdg : decode cc pc = .ok (.invokevirtual index, 3)) (hf : cells + 0 ≤ R.cells ∧ slots + 0 ≤ R.slots)
    (is2 : List Nat) (n2 : Nat) (hp2 : q_pk n2 is2 W2 = W3) (hn2 : q_ok n2 is2 W2)
    (kk : ∀ (H1 : Heap) (locs1 : List Loc), va_P D vwCl W3 H1 → va_D A W3 → va_S A s.heap H1 locs1 → W p l e R s m args below meth c H1 locs1 cells slots Q (F0 m (pc + 3) ls (v0.toList ++ rest))) : W p l e R s m args below meth c H locs cells slots Q (F0 m pc ls st0) :=
  q_call (va_runV (As := As) (rest := rest) S hM cw (q_preV hK hA hZ hP hD hS hp1 hn1 q0 he hc) rfl hn hl hst (lv_room hW) hdg hf) hS (fun t locs1 _ hB hS1 => kk t.heap locs1 (q_pk_P hB.1 hp2) (q_pk_D hB.2 hp2 hn2) hS1)
/-- a virtual call that makes two arrays: their addresses come with the world behind it -/
theorem q_cVx {mc ms : Nat} {W2x W3x : Nat → Nat → va_W} (S : CallFix p m c cc nL s args Ts own) (hK : va_K D vwCl (q_tys ci) s) (hA : ∀ q : Nat, s.heap.size ≤ q → A q) (hZ : q_Z A sa s) (hP : va_P D vwCl Wd H) (hD : va_D A Wd) (hS : va_S A s.heap H locs) (hl : ls.size = nL)
    (is1 : List Nat) (n1 : Nat) (hp1 : q_pk n1 is1 Wd = W1) (hn1 : q_ok n1 is1 Wd) (hM : Met l y wsc rm (va_Pc (.ref b :: As) (q_N D ci A sa W1)) (q_Q v0 (fun t => ∃ b1 b2 : Nat, q_O D A (W2x b1 b2) t) A) mc ms A)
    (q0 : Nat) {k : Nat} {fs : List Value} {C : String} {T : u_T} {N : Nat} (he : Wd[q0]? = some (b, .inr (k, fs))) (hc : vwCl[k]? = some (C, T, N)) (cw : CallW R s args own C index y bytes maxL ret wsc rm mc ms n) (hn : As.length = n) (hst : st0 = As.reverse ++ .ref b :: rest) (hW : (rest.map fun v => v.category).sum ≤ 8) (hdg : decode cc pc = .ok (.invokevirtual index, 3)) (hf : cells + mc ≤ R.cells ∧ slots + ms ≤ R.slots)
    (is2 : List Nat) (n2 : Nat) (hp2 : ∀ b1 b2, q_pk n2 is2 (W2x b1 b2) = W3x b1 b2) (hn2 : ∀ b1 b2, q_ok n2 is2 (W2x b1 b2))
    (kk : ∀ (b1 b2 : Nat) (H1 : Heap) (locs1 : List Loc), va_P D vwCl (W3x b1 b2) H1 → va_D A (W3x b1 b2) → va_S A s.heap H1 locs1 → W p l e R s m args below meth c H1 locs1 (cells + mc) (slots + ms) Q (F0 m (pc + 3) ls (v0.toList ++ rest))) : W p l e R s m args below meth c H locs cells slots Q (F0 m pc ls st0) :=
  q_call (va_runV (As := As) (rest := rest) S hM cw (q_preV hK hA hZ hP hD hS hp1 hn1 q0 he hc) rfl hn hl hst (lv_room hW) hdg hf) hS (fun t locs1 _ hB hS1 => by
    obtain ⟨b1, b2, hB⟩ := hB
    exact kk b1 b2 t.heap locs1 (q_pk_P hB.1 (hp2 b1 b2)) (q_pk_D hB.2 (hp2 b1 b2) (hn2 b1 b2)) hS1)
/-- a virtual call that writes nothing -/
theorem q_cVr (S : CallFix p m c cc nL s args Ts own) (hK : va_K D vwCl (q_tys ci) s) (hA : ∀ q : Nat, s.heap.size ≤ q → A q) (hZ : q_Z A sa s) (hP : va_P D vwCl Wd H) (hD : va_D A Wd) (hS : va_S A s.heap H locs) (hl : ls.size = nL)
    (is1 : List Nat) (n1 : Nat) (hp1 : q_pk n1 is1 Wd = W1) (hn1 : q_ok n1 is1 Wd) (hM : Met l y wsc rm (va_Pc (.ref b :: As) (q_N D ci A sa W1)) (q_R v0) 0 0 A)
    (q0 : Nat) {k : Nat} {fs : List Value} {C : String} {T : u_T} {N : Nat} (he : Wd[q0]? = some (b, .inr (k, fs))) (hc : vwCl[k]? = some (C, T, N)) (cw : CallW R s args own C index y bytes maxL ret wsc rm 0 0 n) (hn : As.length = n) (hst : st0 = As.reverse ++ .ref b :: rest) (hW : (rest.map fun v => v.category).sum ≤ 8) (hdg : decode cc pc = .ok (.invokevirtual index, 3)) (hf : cells + 0 ≤ R.cells ∧ slots + 0 ≤ R.slots)
    (kk : ∀ (locs1 : List Loc), va_S A s.heap H locs1 → W p l e R s m args below meth c H locs1 cells slots Q (F0 m (pc + 3) ls (v0.toList ++ rest))) : W p l e R s m args below meth c H locs cells slots Q (F0 m pc ls st0) :=
  q_callR (va_runV (As := As) (rest := rest) S hM cw (q_preV hK hA hZ hP hD hS hp1 hn1 q0 he hc) rfl hn hl hst (lv_room hW) hdg hf) hS (fun locs1 hS1 => kk locs1 hS1)
theorem q_cS (S : CallFix p m c cc nL s args Ts own) (hK : va_K D vwCl (q_tys ci) s) (hA : ∀ q : Nat, s.heap.size ≤ q → A q) (hZ : q_Z A sa s) (hP : va_P D vwCl Wd H) (hD : va_D A Wd) (hS : va_S A s.heap H locs) (hl : ls.size = nL)
    (is1 : List Nat) (n1 : Nat) (hp1 : q_pk n1 is1 Wd = W1) (hn1 : q_ok n1 is1 Wd) (hM : Met l y wsc rm (va_Pc As (q_N D ci A sa W1)) (q_Q v0 (q_O D A W2) A) 0 0 A)
    (cw : CallB R s args own index y bytes maxL ret wsc rm 0 0 n ∧ (Cond.static y).before args s = true) (hn : As.length = n) (hst : st0 = As.reverse ++ rest) (hW : (rest.map fun v => v.category).sum ≤ 8) (hdg : decode cc pc = .ok (.invokestatic index, 3)) (hf : cells + 0 ≤ R.cells ∧ slots + 0 ≤ R.slots)
    (is2 : List Nat) (n2 : Nat) (hp2 : q_pk n2 is2 W2 = W3) (hn2 : q_ok n2 is2 W2)
    (kk : ∀ (H1 : Heap) (locs1 : List Loc), va_P D vwCl W3 H1 → va_D A W3 → va_S A s.heap H1 locs1 → W p l e R s m args below meth c H1 locs1 cells slots Q (F0 m (pc + 3) ls (v0.toList ++ rest))) : W p l e R s m args below meth c H locs cells slots Q (F0 m pc ls st0) :=
  q_call (va_runS (As := As) (rest := rest) S hM cw (q_preS hK hA hZ hP hD hS hp1 hn1) rfl hn hl hst (lv_room hW) hdg hf) hS (fun t locs1 _ hB hS1 => kk t.heap locs1 (q_pk_P hB.1 hp2) (q_pk_D hB.2 hp2 hn2) hS1)
theorem q_cSr (S : CallFix p m c cc nL s args Ts own) (hK : va_K D vwCl (q_tys ci) s) (hA : ∀ q : Nat, s.heap.size ≤ q → A q) (hZ : q_Z A sa s) (hP : va_P D vwCl Wd H) (hD : va_D A Wd) (hS : va_S A s.heap H locs) (hl : ls.size = nL)
    (is1 : List Nat) (n1 : Nat) (hp1 : q_pk n1 is1 Wd = W1) (hn1 : q_ok n1 is1 Wd) (hM : Met l y wsc rm (va_Pc As (q_N D ci A sa W1)) (q_R v0) 0 0 A)
    (cw : CallB R s args own index y bytes maxL ret wsc rm 0 0 n ∧ (Cond.static y).before args s = true) (hn : As.length = n) (hst : st0 = As.reverse ++ rest) (hW : (rest.map fun v => v.category).sum ≤ 8) (hdg : decode cc pc = .ok (.invokestatic index, 3)) (hf : cells + 0 ≤ R.cells ∧ slots + 0 ≤ R.slots)
    (kk : ∀ (locs1 : List Loc), va_S A s.heap H locs1 → W p l e R s m args below meth c H locs1 cells slots Q (F0 m (pc + 3) ls (v0.toList ++ rest))) : W p l e R s m args below meth c H locs cells slots Q (F0 m pc ls st0) :=
  q_callR (va_runS (As := As) (rest := rest) S hM cw (q_preS hK hA hZ hP hD hS hp1 hn1) rfl hn hl hst (lv_room hW) hdg hf) hS (fun locs1 hS1 => kk locs1 hS1)
theorem q_cVs (S : CallFix p m c cc nL s args Ts own) (hK : va_K D vwCl (q_tys ci) s) (hA : ∀ q : Nat, s.heap.size ≤ q → A q) (hZ : q_Z A sa s) (hP : va_P D vwCl Wd H) (hD : va_D A Wd) (hS : va_S A s.heap H locs) (hl : ls.size = nL)
    (is1 : List Nat) (n1 : Nat) (hp1 : q_pk n1 is1 Wd = W1) (hn1 : q_ok n1 is1 Wd) (hM : Met l y wsc rm (va_Pc (.ref b :: As) (q_N D ci A sa W1)) (q_R v0) 0 0 A)
    {C : String} (hrv : ∃ cell : Cell, H[b]? = some cell ∧ cell.vm.isStatics = false ∧ s.vm.findClass C = some cell.cls) (cw : CallW R s args own C index y bytes maxL ret wsc rm 0 0 n) (hn : As.length = n) (hst : st0 = As.reverse ++ .ref b :: rest) (hW : (rest.map fun v => v.category).sum ≤ 8) (hdg : decode cc pc = .ok (.invokevirtual index, 3)) (hf : cells + 0 ≤ R.cells ∧ slots + 0 ≤ R.slots)
    (kk : ∀ (locs1 : List Loc), va_S A s.heap H locs1 → W p l e R s m args below meth c H locs1 cells slots Q (F0 m (pc + 3) ls (v0.toList ++ rest))) : W p l e R s m args below meth c H locs cells slots Q (F0 m pc ls st0) :=
  q_callR (va_runV (As := As) (rest := rest) S hM cw ⟨q_blind, hrv, (q_preS (As := .ref b :: As) hK hA hZ hP hD hS hp1 hn1).2⟩ rfl hn hl hst (lv_room hW) hdg hf) hS (fun locs1 hS1 => kk locs1 hS1)
theorem q_cSNr {host : String} (S : CallFix p m c cc nL s args Ts own) (hK : va_K D vwCl (q_tys ci) s) (hA : ∀ q : Nat, s.heap.size ≤ q → A q) (hZ : q_Z A sa s) (hP : va_P D vwCl Wd H) (hD : va_D A Wd) (hS : va_S A s.heap H locs) (hl : ls.size = nL)
    (is1 : List Nat) (n1 : Nat) (hp1 : q_pk n1 is1 Wd = W1) (hn1 : q_ok n1 is1 Wd) (hM : Met l y wsc rm (va_Pc As (q_N D ci A sa W1)) (q_R v0) 0 0 A)
    (cw : va_CN R s args own index y host bytes maxL ret wsc rm 0 0 n ∧ (Cond.static y).before args s = true ∧ True) (hn : As.length = n) (hst : st0 = As.reverse ++ rest) (hW : (rest.map fun v => v.category).sum ≤ 8) (hdg : decode cc pc = .ok (.invokestatic index, 3)) (hf : cells + 0 ≤ R.cells ∧ slots + 0 ≤ R.slots)
    (kk : ∀ (locs1 : List Loc), va_S A s.heap H locs1 → W p l e R s m args below meth c H locs1 cells slots Q (F0 m (pc + 3) ls (v0.toList ++ rest))) : W p l e R s m args below meth c H locs cells slots Q (F0 m pc ls st0) :=
  q_callR (va_runSN (As := As) (rest := rest) S hM cw (q_preS hK hA hZ hP hD hS hp1 hn1) rfl hn hl hst (lv_room hW) hdg hf) hS (fun locs1 hS1 => kk locs1 hS1)
end QROWS
section QENDS
variable {p : Program} {l : Launch} {e : Env} {R : Room} {s : State} {m : MethodId} {args : Array Value} {below : List Frame} {meth : Method} {c : Code} {H : Heap} {locs : List Loc} {cells slots : Nat}
variable {cc : ByteArray} {pc : Nat} {ls : Array Slot} {D : va_G} {A : Nat → Prop} {Wd : va_W}
theorem q_iret {v : Int32} (hx : p.tables.exec = Jvm.exec) (hb : c.code = cc) (hr : meth.sig.returnType = some .int) (hlocks : meth.locks = false) (hP : va_P D vwCl Wd H) (hD : va_D A Wd) (hS : va_S A s.heap H locs) (hdg : decode cc pc = .ok (.ireturn, 1)) : W p l e R s m args below meth c H locs cells slots (MQ below (q_Q (some (.int v)) (q_O D A Wd) A) args s cells slots A) (F0 m pc ls [.int v]) :=
  W.iret hx hb hr (fun t ht _ => ⟨rfl, ⟨by rw [ht]; exact hP, hD⟩, hS.F ht⟩) hS.2.2 hdg hlocks
theorem q_zret {v : Int32} {ty : FieldType} (hx : p.tables.exec = Jvm.exec) (hb : c.code = cc) (hr : meth.sig.returnType = some ty) (hn : narrow ty (.int v) = .int v) (hlocks : meth.locks = false) (hP : va_P D vwCl Wd H) (hD : va_D A Wd) (hS : va_S A s.heap H locs) (hdg : decode cc pc = .ok (.ireturn, 1)) : W p l e R s m args below meth c H locs cells slots (MQ below (q_Q (some (.int v)) (q_O D A Wd) A) args s cells slots A) (F0 m pc ls [.int v]) :=
  W.zret hx hb hr hn (fun t ht _ => ⟨rfl, ⟨by rw [ht]; exact hP, hD⟩, hS.F ht⟩) hS.2.2 hdg hlocks
theorem q_lret {v : Int64} (hx : p.tables.exec = Jvm.exec) (hb : c.code = cc) (hr : meth.sig.returnType = some .long) (hlocks : meth.locks = false) (hP : va_P D vwCl Wd H) (hD : va_D A Wd) (hS : va_S A s.heap H locs) (hdg : decode cc pc = .ok (.lreturn, 1)) : W p l e R s m args below meth c H locs cells slots (MQ below (q_Q (some (.long v)) (q_O D A Wd) A) args s cells slots A) (F0 m pc ls [.long v]) :=
  W.lret hx hb hr (fun t ht _ => ⟨rfl, ⟨by rw [ht]; exact hP, hD⟩, hS.F ht⟩) hS.2.2 hdg hlocks
theorem q_vret (hx : p.tables.exec = Jvm.exec) (hb : c.code = cc) (hr : meth.sig.returnType = none) (hlocks : meth.locks = false) (hP : va_P D vwCl Wd H) (hD : va_D A Wd) (hS : va_S A s.heap H locs) (hdg : decode cc pc = .ok (.return_, 1)) : W p l e R s m args below meth c H locs cells slots (MQ below (q_Q none (q_O D A Wd) A) args s cells slots A) (F0 m pc ls []) :=
  W.vret hx hb hr (fun t ht _ => ⟨rfl, ⟨by rw [ht]; exact hP, hD⟩, hS.F ht⟩) hS.2.2 hdg hlocks
theorem q_iretx {v : Int32} {B : State → Prop} (hx : p.tables.exec = Jvm.exec) (hb : c.code = cc) (hr : meth.sig.returnType = some .int) (hlocks : meth.locks = false) (hB : ∀ t : State, t.heap = H → B t) (hS : va_S A s.heap H locs) (hdg : decode cc pc = .ok (.ireturn, 1)) : W p l e R s m args below meth c H locs cells slots (MQ below (q_Q (some (.int v)) B A) args s cells slots A) (F0 m pc ls [.int v]) :=
  W.iret hx hb hr (fun t ht _ => ⟨rfl, hB t ht, hS.F ht⟩) hS.2.2 hdg hlocks
theorem q_vretx {B : State → Prop} (hx : p.tables.exec = Jvm.exec) (hb : c.code = cc) (hr : meth.sig.returnType = none) (hlocks : meth.locks = false) (hB : ∀ t : State, t.heap = H → B t) (hS : va_S A s.heap H locs) (hdg : decode cc pc = .ok (.return_, 1)) : W p l e R s m args below meth c H locs cells slots (MQ below (q_Q none B A) args s cells slots A) (F0 m pc ls []) :=
  W.vret hx hb hr (fun t ht _ => ⟨rfl, hB t ht, hS.F ht⟩) hS.2.2 hdg hlocks
theorem q_iretr {v : Int32} (hx : p.tables.exec = Jvm.exec) (hb : c.code = cc) (hr : meth.sig.returnType = some .int) (hlocks : meth.locks = false) (hH : H = s.heap) (hS : va_S A s.heap H locs) (hdg : decode cc pc = .ok (.ireturn, 1)) : W p l e R s m args below meth c H locs cells slots (MQ below (q_R (some (.int v))) args s cells slots A) (F0 m pc ls [.int v]) :=
  W.iret hx hb hr (fun t ht _ => ⟨rfl, by rw [ht, hH]⟩) hS.2.2 hdg hlocks
theorem q_zretr {v : Int32} {ty : FieldType} (hx : p.tables.exec = Jvm.exec) (hb : c.code = cc) (hr : meth.sig.returnType = some ty) (hn : narrow ty (.int v) = .int v) (hlocks : meth.locks = false) (hH : H = s.heap) (hS : va_S A s.heap H locs) (hdg : decode cc pc = .ok (.ireturn, 1)) : W p l e R s m args below meth c H locs cells slots (MQ below (q_R (some (.int v))) args s cells slots A) (F0 m pc ls [.int v]) :=
  W.zret hx hb hr hn (fun t ht _ => ⟨rfl, by rw [ht, hH]⟩) hS.2.2 hdg hlocks
theorem q_lretr {v : Int64} (hx : p.tables.exec = Jvm.exec) (hb : c.code = cc) (hr : meth.sig.returnType = some .long) (hlocks : meth.locks = false) (hH : H = s.heap) (hS : va_S A s.heap H locs) (hdg : decode cc pc = .ok (.lreturn, 1)) : W p l e R s m args below meth c H locs cells slots (MQ below (q_R (some (.long v))) args s cells slots A) (F0 m pc ls [.long v]) :=
  W.lret hx hb hr (fun t ht _ => ⟨rfl, by rw [ht, hH]⟩) hS.2.2 hdg hlocks
theorem q_vretr (hx : p.tables.exec = Jvm.exec) (hb : c.code = cc) (hr : meth.sig.returnType = none) (hlocks : meth.locks = false) (hH : H = s.heap) (hS : va_S A s.heap H locs) (hdg : decode cc pc = .ok (.return_, 1)) : W p l e R s m args below meth c H locs cells slots (MQ below (q_R none) args s cells slots A) (F0 m pc ls []) :=
  W.vret hx hb hr (fun t ht _ => ⟨rfl, by rw [ht, hH]⟩) hS.2.2 hdg hlocks
end QENDS
/-- a method's walk, from its entry -/
theorem q_ofW {l : Launch} {y : MethodName} {ws ws' : List Cond} {rm : Room} {Qc : Array Value → State → Outcome → State → Prop} {cc : ByteArray} {maxL : Nat} {ret : Option FieldType} {D : va_G} {ci : Nat → ClassId} {A : Nat → Prop} {sa : Nat → Nat} {Wd : va_W} {mc ms : Nat} (av : List Value) (hy : plainFor y = true) (hw : ws = Cond.code y cc maxL ret :: ws') (hv : (lg_sl av).length ≤ maxL)
    (body : ∀ (p : Program) (e : Env) (s : State) (m : MethodId) (below : List Frame) (meth : Method) (c : Code) (ls : Array Slot) (Q : State → Prop), Q = MQ below Qc av.toArray s mc ms A → p.tables.exec = Jvm.exec → c.code = cc → c.maxLocals = maxL → meth.sig.returnType = ret → (∀ w ∈ ws, w.before av.toArray s = true) → s.vm.findClass y.cls = some m.cls → meth.locks = false → va_K D vwCl (q_tys ci) s → (∀ q : Nat, s.heap.size ≤ q → A q) → q_Z A sa s → va_P D vwCl Wd s.heap → va_D A Wd → va_S A s.heap s.heap [] → lv_has ls maxL (lv_args 0 av) →
      W p l e rm s m av.toArray below meth c s.heap [] 0 0 Q (F0 m 0 ls [])) : Met l y ws rm (va_Pc av (q_N D ci A sa Wd)) Qc mc ms A := by
  refine va_MetF (cc := cc) (maxL := maxL) (ret := ret) hy hw ?_
  intro p e s m args below meth c s₁ B hml hv2
  obtain ⟨rfl, hP, hD, hK, hA, hZ⟩ := hv2
  rw [lg_entry_eq]
  exact body p e s m below meth c _ _ rfl B.exec B.bytes hml B.returns (atoms_spec (ws := ws) B.pre) (findClass_of_methodNamed B.named) B.notSynchronized hK hA hZ hP hD va_S.rf (lv_entry av hv)
/-- a constructor's walk, from its entry -/
theorem q_ofWI {l : Launch} {y : MethodName} {ws ws' : List Cond} {rm : Room} {Qc : Array Value → State → Outcome → State → Prop} {cc : ByteArray} {maxL : Nat} {ret : Option FieldType} {D : va_G} {ci : Nat → ClassId} {A : Nat → Prop} {sa : Nat → Nat} {Wd : va_W} {mc ms : Nat} (av : List Value) (hy : plainFor y = true) (hw : ws = Cond.code y cc maxL ret :: ws') (hv : (lg_sl av).length ≤ maxL)
    (body : ∀ (p : Program) (e : Env) (s : State) (m : MethodId) (below : List Frame) (meth : Method) (c : Code) (ls : Array Slot) (Q : State → Prop), Q = MQ below Qc av.toArray s mc ms A → p.tables.exec = Jvm.exec → c.code = cc → c.maxLocals = maxL → meth.sig.returnType = ret → (∀ w ∈ ws, w.before av.toArray s = true) → s.vm.findClass y.cls = some m.cls → meth.locks = false → meth.name = y.name → va_K D vwCl (q_tys ci) s → (∀ q : Nat, s.heap.size ≤ q → A q) → q_Z A sa s → va_P D vwCl Wd s.heap → va_D A Wd → va_S A s.heap s.heap [] → lv_has ls maxL (lv_args 0 av) →
      W p l e rm s m av.toArray below meth c s.heap [] 0 0 Q (F0 m 0 ls [])) : Met l y ws rm (va_Pc av (q_N D ci A sa Wd)) Qc mc ms A := by
  refine va_MetF (cc := cc) (maxL := maxL) (ret := ret) hy hw ?_
  intro p e s m args below meth c s₁ B hml hv2
  obtain ⟨rfl, hP, hD, hK, hA, hZ⟩ := hv2
  rw [lg_entry_eq]
  exact body p e s m below meth c _ _ rfl B.exec B.bytes hml B.returns (atoms_spec (ws := ws) B.pre) (findClass_of_methodNamed B.named) B.notSynchronized (name_of_methodNamed B.named B.method).1 hK hA hZ hP hD va_S.rf (lv_entry av hv)
