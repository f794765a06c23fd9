/-! numbers: partial code at numbers that are Nats -/
theorem z_ai {β : Type} {f : Nat → Int32} {n i : Nat} {k : Int32 → Option β} (h : i < n) (hn : n < 2 ^ 31) : q_ai f n (nI i) k = k (f i) := by
  unfold q_ai; rw [if_neg (nI_in h hn), nI_clamp (by omega)]
theorem z_al {β : Type} {f : Nat → Int64} {n i : Nat} {k : Int64 → Option β} (h : i < n) (hn : n < 2 ^ 31) : q_al f n (nI i) k = k (f i) := by
  unfold q_al; rw [if_neg (nI_in h hn), nI_clamp (by omega)]
theorem z_as {β : Type} {f : Nat → Int32} {n i : Nat} {x : Int32} {k : (Nat → Int32) → Option β} (h : i < n) (hn : n < 2 ^ 31) : q_as f n (nI i) x k = k (upd f i x) := by
  unfold q_as; rw [if_neg (nI_in h hn), nI_clamp (by omega)]
theorem z_asb {β : Type} {f : Nat → Int32} {n i : Nat} {x : Int32} {k : (Nat → Int32) → Option β} (h : i < n) (hn : n < 2 ^ 31) : q_asb f n (nI i) x k = k (upd f i (vp_nar .byte x)) := by
  unfold q_asb; rw [if_neg (nI_in h hn), nI_clamp (by omega)]
theorem z_asl {β : Type} {f : Nat → Int64} {n i : Nat} {x : Int64} {k : (Nat → Int64) → Option β} (h : i < n) (hn : n < 2 ^ 31) : q_asl f n (nI i) x k = k (vp_updL f i x) := by
  unfold q_asl; rw [if_neg (nI_in h hn), nI_clamp (by omega)]
theorem z_dv {β : Type} {a d : Nat} {k : Int32 → Option β} (ha : a < 2 ^ 31) (h0 : 0 < d) (hd : d < 2 ^ 31) : q_dv (nI a) (nI d) k = k (nI (a / d)) := by
  unfold q_dv; rw [if_neg (nI_ne0 h0 hd), pk_div ha h0 hd]
theorem z_rm {β : Type} {a d : Nat} {k : Int32 → Option β} (ha : a < 2 ^ 31) (h0 : 0 < d) (hd : d < 2 ^ 31) : q_rm (nI a) (nI d) k = k (nI (a % d)) := by
  unfold q_rm; rw [if_neg (nI_ne0 h0 hd), pk_rem ha h0 hd]
theorem z_lne0 {d : Nat} (h0 : 0 < d) (hd : d < 2 ^ 63) : ¬ lN d = 0 := by
  intro h
  have := (pk_lEQ hd (show 0 < 2 ^ 63 by omega)).mp h
  omega
theorem z_dvl {β : Type} {a d : Nat} {k : Int64 → Option β} (ha : a < 2 ^ 63) (h0 : 0 < d) (hd : d < 2 ^ 63) : q_dvl (lN a) (lN d) k = k (lN (a / d)) := by
  unfold q_dvl; rw [if_neg (z_lne0 h0 hd), pk_lDiv ha h0 hd]
theorem z_rml {β : Type} {a d : Nat} {k : Int64 → Option β} (ha : a < 2 ^ 63) (h0 : 0 < d) (hd : d < 2 ^ 63) : q_rml (lN a) (lN d) k = k (lN (a % d)) := by
  unfold q_rml; rw [if_neg (z_lne0 h0 hd), pk_lRem ha h0 hd]
theorem z_nm {α β : Type} {e : α} {k : α → Option β} : q_nm e k = k e := rfl
theorem z_j0 { β γ : Type} {K : Option β} {b : (Option β) → Option γ} : q_j0 K b = b K := rfl
theorem z_j1 {A1 β γ : Type} {K : A1 → Option β} {b : (A1 → Option β) → Option γ} : q_j1 K b = b K := rfl
theorem z_j2 {A1 A2 β γ : Type} {K : A1 → A2 → Option β} {b : (A1 → A2 → Option β) → Option γ} : q_j2 K b = b K := rfl
theorem z_j3 {A1 A2 A3 β γ : Type} {K : A1 → A2 → A3 → Option β} {b : (A1 → A2 → A3 → Option β) → Option γ} : q_j3 K b = b K := rfl
theorem z_j4 {A1 A2 A3 A4 β γ : Type} {K : A1 → A2 → A3 → A4 → Option β} {b : (A1 → A2 → A3 → A4 → Option β) → Option γ} : q_j4 K b = b K := rfl
theorem z_j5 {A1 A2 A3 A4 A5 β γ : Type} {K : A1 → A2 → A3 → A4 → A5 → Option β} {b : (A1 → A2 → A3 → A4 → A5 → Option β) → Option γ} : q_j5 K b = b K := rfl
theorem z_j6 {A1 A2 A3 A4 A5 A6 β γ : Type} {K : A1 → A2 → A3 → A4 → A5 → A6 → Option β} {b : (A1 → A2 → A3 → A4 → A5 → A6 → Option β) → Option γ} : q_j6 K b = b K := rfl
theorem z_j7 {A1 A2 A3 A4 A5 A6 A7 β γ : Type} {K : A1 → A2 → A3 → A4 → A5 → A6 → A7 → Option β} {b : (A1 → A2 → A3 → A4 → A5 → A6 → A7 → Option β) → Option γ} : q_j7 K b = b K := rfl
theorem z_j8 {A1 A2 A3 A4 A5 A6 A7 A8 β γ : Type} {K : A1 → A2 → A3 → A4 → A5 → A6 → A7 → A8 → Option β} {b : (A1 → A2 → A3 → A4 → A5 → A6 → A7 → A8 → Option β) → Option γ} : q_j8 K b = b K := rfl
theorem z_j9 {A1 A2 A3 A4 A5 A6 A7 A8 A9 β γ : Type} {K : A1 → A2 → A3 → A4 → A5 → A6 → A7 → A8 → A9 → Option β} {b : (A1 → A2 → A3 → A4 → A5 → A6 → A7 → A8 → A9 → Option β) → Option γ} : q_j9 K b = b K := rfl
theorem z_j10 {A1 A2 A3 A4 A5 A6 A7 A8 A9 A10 β γ : Type} {K : A1 → A2 → A3 → A4 → A5 → A6 → A7 → A8 → A9 → A10 → Option β} {b : (A1 → A2 → A3 → A4 → A5 → A6 → A7 → A8 → A9 → A10 → Option β) → Option γ} : q_j10 K b = b K := rfl
theorem z_j11 {A1 A2 A3 A4 A5 A6 A7 A8 A9 A10 A11 β γ : Type} {K : A1 → A2 → A3 → A4 → A5 → A6 → A7 → A8 → A9 → A10 → A11 → Option β} {b : (A1 → A2 → A3 → A4 → A5 → A6 → A7 → A8 → A9 → A10 → A11 → Option β) → Option γ} : q_j11 K b = b K := rfl
theorem z_j12 {A1 A2 A3 A4 A5 A6 A7 A8 A9 A10 A11 A12 β γ : Type} {K : A1 → A2 → A3 → A4 → A5 → A6 → A7 → A8 → A9 → A10 → A11 → A12 → Option β} {b : (A1 → A2 → A3 → A4 → A5 → A6 → A7 → A8 → A9 → A10 → A11 → A12 → Option β) → Option γ} : q_j12 K b = b K := rfl
theorem z_bo {β : Type} {v : Int32} {k : Option β} (h : v = 0 ∨ v = 1) : q_bo v k = k := by unfold q_bo; rw [if_pos h]
theorem z_lt {x y : Int32} : x < y ↔ x.toInt < y.toInt := Int32.lt_iff_toInt_lt
theorem z_le {x y : Int32} : x ≤ y ↔ x.toInt ≤ y.toInt := Int32.le_iff_toInt_le
/-- a literal as a Nat -/
theorem z_i (n : Nat) : (OfNat.ofNat n : Int32) = nI n := rfl
theorem z_l (n : Nat) : (OfNat.ofNat n : Int64) = lN n := rfl
theorem z_le0 {a : Nat} (ha : a < 2 ^ 31) : nI a ≤ 0 ↔ a = 0 := by
  rw [show (0 : Int32) = nI 0 from rfl, nI_leI ha (by omega)]; omega
theorem z_0lt {a : Nat} (ha : a < 2 ^ 31) : 0 < nI a ↔ 0 < a := by
  rw [show (0 : Int32) = nI 0 from rfl, nI_ltI (by omega) ha]
theorem z_eq0 {a : Nat} (ha : a < 2 ^ 31) : nI a = 0 ↔ a = 0 := by
  rw [show (0 : Int32) = nI 0 from rfl, nI_eq ha (by omega)]
theorem z_lt0 {a : Nat} (ha : a < 2 ^ 31) : ¬ nI a < 0 := nI_pos ha
theorem z_sub1 {a : Nat} (h : 1 ≤ a) : nI a - 1 = nI (a - 1) := by
  rw [show (1 : Int32) = nI 1 from rfl, pk_sub h]
theorem z_updS {f : Nat → Int32} {k : Nat} {x : Int32} : upd f k x k = x := pk_us
theorem z_updN {f : Nat → Int32} {k j : Nat} {x : Int32} (h : j ≠ k) : upd f k x j = f j := pk_un h
theorem z_some {α : Type} {a b : α} (h : a = b) : some a = some b := by rw [h]
/-- zones of a band, and ahead of it -/
def z_bzl : List Nat := [15, 15, 15, 30, 30, 30, 30, 60, 60, 60, 60, 60, 60, 60, 60, 60, 60, 60, 60, 60, 60, 60, 60, 60, 60, 60, 60, 60, 60, 60, 60, 60, 60, 60, 60, 60, 60, 30, 30, 30, 30, 15, 15, 15]
def z_zal : List Nat := [0, 15, 30, 45, 75, 105, 135, 165, 225, 285, 345, 405, 465, 525, 585, 645, 705, 765, 825, 885, 945, 1005, 1065, 1125, 1185, 1245, 1305, 1365, 1425, 1485, 1545, 1605, 1665, 1725, 1785, 1845, 1905, 1965, 1995, 2025, 2055, 2085, 2100, 2115, 2130]
def z_bz (j : Nat) : Nat := z_bzl.getD j 0
def z_za (j : Nat) : Nat := z_zal.getD j 2130
theorem z_bZ : ∀ j, j < 44 → q_bZ j = nI (z_bz j) := by decide +kernel
theorem z_zA : ∀ j, j < 44 → q_zA j = nI (z_za j) := by decide +kernel
theorem z_bz_in : ∀ j, j < 44 → 15 ≤ z_bz j ∧ z_bz j ≤ 60 := by decide +kernel
theorem z_za_succ : ∀ j, j < 44 → z_za (j + 1) = z_za j + z_bz j := by decide +kernel
theorem z_za_le : ∀ j, j < 45 → z_za j ≤ 2130 := by decide +kernel
theorem z_za_mono : ∀ j, j < 45 → ∀ i, i < j → z_za i < z_za j := by decide +kernel
theorem z_za_0 : z_za 0 = 0 := rfl
theorem z_za_44 : z_za 44 = 2130 := rfl
theorem z_band_ex : ∀ z, z < 2130 → ∃ q, q < 44 ∧ z_za q ≤ z ∧ z < z_za (q + 1) := by
  have key : ∀ n, n < 45 → ∀ z, z < z_za n → ∃ q, q < n ∧ z_za q ≤ z ∧ z < z_za (q + 1) := by
    intro n
    induction n with
    | zero => intro _ z hz; rw [z_za_0] at hz; omega
    | succ n ih =>
      intro hn z hz
      by_cases h : z < z_za n
      · obtain ⟨q, h1, h2⟩ := ih (by omega) z h
        exact ⟨q, by omega, h2⟩
      · exact ⟨n, by omega, by omega, hz⟩
  intro z hz
  exact key 44 (by omega) z (by rw [z_za_44]; exact hz)
theorem z_band_one {q1 q2 z : Nat} (h1 : q1 < 44) (h2 : q2 < 44) (a1 : z_za q1 ≤ z) (b1 : z < z_za (q1 + 1)) (a2 : z_za q2 ≤ z) (b2 : z < z_za (q2 + 1)) : q1 = q2 := by
  rcases Nat.lt_trichotomy q1 q2 with h | h | h
  · have : z_za (q1 + 1) ≤ z_za q2 := by
      rcases Nat.lt_or_ge (q1 + 1) q2 with g | g
      · exact Nat.le_of_lt (z_za_mono q2 (by omega) (q1 + 1) g)
      · have : q1 + 1 = q2 := by omega
        rw [this]; exact Nat.le_refl _
    omega
  · exact h
  · have : z_za (q2 + 1) ≤ z_za q1 := by
      rcases Nat.lt_or_ge (q2 + 1) q1 with g | g
      · exact Nat.le_of_lt (z_za_mono q1 (by omega) (q2 + 1) g)
      · have : q2 + 1 = q1 := by omega
        rw [this]; exact Nat.le_refl _
    omega
/-- the cuts of a world: by levels rows, columns, rows of a band, columns of a zone -/
def CUT (R C H V : Nat → Nat) : Prop := R 0 = 1 ∧ C 0 = 1 ∧ H 0 = 1 ∧ V 0 = 1 ∧ (∀ l, l < 4 → H (l + 1) = H l * R (l + 1) ∧ V (l + 1) = V l * C (l + 1)) ∧ (∀ l, l < 5 → 1 ≤ R l ∧ R l ≤ 6 ∧ 1 ≤ C l ∧ C l ≤ 6) ∧ 2130 * (H 4 * V 4) + 2 ≤ 20000000
def GOK (R C H V : Nat → Nat) (rc cc br zc rw sh : Nat → Int32) : Prop :=
  (∀ l, l < 5 → rc l = nI (R l) ∧ cc l = nI (C l) ∧ br l = nI (H l) ∧ zc l = nI (V l) ∧ rw l = nI (44 * H l + 2) ∧ sh l = nI (2130 * (H l * V l) + 2)) ∧ CUT R C H V
theorem CUT.step {R C H V : Nat → Nat} (h : CUT R C H V) {l : Nat} (hl : l < 4) : H l ≤ H (l + 1) ∧ V l ≤ V (l + 1) := by
  obtain ⟨-, -, -, -, h1, h2, -⟩ := h
  have a := h1 l hl
  have b := h2 (l + 1) (by omega)
  rw [a.1, a.2]
  exact ⟨Nat.le_mul_of_pos_right _ (by omega), Nat.le_mul_of_pos_right _ (by omega)⟩
theorem CUT.pos {R C H V : Nat → Nat} (h : CUT R C H V) : ∀ l, l < 5 → 1 ≤ H l ∧ 1 ≤ V l := by
  intro l
  induction l with
  | zero => intro _; obtain ⟨-, -, h1, h2, -⟩ := h; omega
  | succ l ih => intro hl; have := ih (by omega); have := h.step (l := l) (by omega); omega
theorem CUT.mono {R C H V : Nat → Nat} (h : CUT R C H V) : ∀ m, m < 5 → ∀ l, l ≤ m → H l ≤ H m ∧ V l ≤ V m := by
  intro m
  induction m with
  | zero => intro _ l hl; have : l = 0 := by omega
            subst this; exact ⟨Nat.le_refl _, Nat.le_refl _⟩
  | succ m ih =>
    intro hm l hl
    rcases Nat.lt_or_ge l (m + 1) with g | g
    · have a := ih (by omega) l (by omega)
      have b := h.step (l := m) (by omega)
      omega
    · have : l = m + 1 := by omega
      subst this; exact ⟨Nat.le_refl _, Nat.le_refl _⟩
theorem CUT.dvd {R C H V : Nat → Nat} (h : CUT R C H V) : ∀ m, m < 5 → ∀ l, l ≤ m → H l ∣ H m ∧ V l ∣ V m := by
  intro m
  induction m with
  | zero => intro _ l hl; have : l = 0 := by omega
            subst this; exact ⟨Nat.dvd_refl _, Nat.dvd_refl _⟩
  | succ m ih =>
    intro hm l hl
    rcases Nat.lt_or_ge l (m + 1) with g | g
    · have a := ih (by omega) l (by omega)
      obtain ⟨-, -, -, -, h1, -⟩ := h
      have b := h1 m (by omega)
      rw [b.1, b.2]
      exact ⟨Nat.dvd_trans a.1 (Nat.dvd_mul_right _ _), Nat.dvd_trans a.2 (Nat.dvd_mul_right _ _)⟩
    · have : l = m + 1 := by omega
      subst this; exact ⟨Nat.dvd_refl _, Nat.dvd_refl _⟩
theorem CUT.sh {R C H V : Nat → Nat} (h : CUT R C H V) {l : Nat} (hl : l < 5) : 2130 * (H l * V l) + 2 ≤ 20000000 := by
  have a := h.mono 4 (by omega) l (by omega)
  have b := Nat.mul_le_mul a.1 a.2
  obtain ⟨-, -, -, -, -, -, h1⟩ := h
  omega
theorem CUT.hv {R C H V : Nat → Nat} (h : CUT R C H V) {l : Nat} (hl : l < 5) : H l ≤ 9390 ∧ V l ≤ 9390 ∧ H l * V l ≤ 9390 := by
  have a := h.sh hl
  have b := h.pos l hl
  have c := Nat.le_mul_of_pos_right (H l) (show 0 < V l by omega)
  have d := Nat.le_mul_of_pos_left (V l) (show 0 < H l by omega)
  omega
