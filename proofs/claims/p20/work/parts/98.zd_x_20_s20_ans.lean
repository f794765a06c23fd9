/-! answers: questions; blanks, words -/
section S20A
variable {R C : Nat → Nat} {rc cc br zc rw sh cr cq dp wd za : Nat → Int32} {N t e n : Nat} {f : Nat → Int32} {tb : Nat → Nat}
/-- the first blank from a place on within so many -/
def z_bl (tb : Nat → Nat) : Nat → Nat → Nat
  | 0, k => k
  | m + 1, k => if tb k = 32 then k else z_bl tb m (k + 1)
theorem z_bl_in (tb : Nat → Nat) : ∀ m k, k ≤ z_bl tb m k ∧ z_bl tb m k ≤ k + m := by
  intro m
  induction m with
  | zero => intro k; exact ⟨Nat.le_refl k, Nat.le_refl k⟩
  | succ m ih =>
    intro k
    have := ih (k + 1)
    unfold z_bl
    split <;> omega
theorem r_blankFrom (h : l_tX t tb f) (hn : n ≤ t) (ht : t ≤ 200) (hN : 1000 ≤ N) {k : Nat} (hk : k ≤ n) : f_Tape_blankFrom N f (nI t) (nI k) (nI n) = some (nI (z_bl tb (n - k) k)) := by
  have L : ∀ m j k, k + m = n → m < j → (f_Tape_blankFrom_L2 (nI n) f (nI t) j (nI k) = some (.inl ()) ∧ z_bl tb m k = n) ∨ f_Tape_blankFrom_L2 (nI n) f (nI t) j (nI k) = some (.inr (nI (z_bl tb m k))) := by
    intro m
    induction m with
    | zero =>
      intro j k hk hj
      obtain ⟨j, rfl⟩ : ∃ j', j = j' + 1 := ⟨j - 1, by omega⟩
      left
      rw [f_Tape_blankFrom_L2, if_pos (by rw [nI_leI (by omega) (by omega)]; omega)]
      exact ⟨rfl, by unfold z_bl; omega⟩
    | succ m ih =>
      intro j k hk hj
      obtain ⟨j, rfl⟩ : ∃ j', j = j' + 1 := ⟨j - 1, by omega⟩
      obtain ⟨h1, h2⟩ := h k (by omega)
      rw [f_Tape_blankFrom_L2, if_neg (by rw [nI_leI (by omega) (by omega)]; omega), if_neg (by rw [nI_leI (by omega) (by omega)]; omega), z_ai (by omega) (by omega), h2]
      unfold z_bl
      by_cases c : tb k = 32
      · right
        rw [if_pos (by rw [z_i 32, nI_eq (by omega) (by omega)]; exact c), if_pos c]
      · rw [if_neg (by rw [z_i 32, nI_eq (by omega) (by omega)]; exact c), if_neg c, nI_1, z_nm]
        exact ih j (k + 1) (by omega) (by omega)
  unfold f_Tape_blankFrom
  rcases L (n - k) N k (by omega) (by omega) with ⟨e1, e2⟩ | e1
  · rw [e1, e2]; rfl
  · rw [e1]; rfl
theorem z_sb32 : ∀ b, b < 256 → ((nI b).toInt8.toInt32 = 32 ↔ b = 32) := by decide +kernel
theorem r_blankFromM (h : l_tM t tb f) (hn : n ≤ t) (ht : t ≤ 200) (hN : 1000 ≤ N) {k : Nat} (hk : k ≤ n) : f_M_blankFrom N f (nI k) (nI n) = some (nI (z_bl tb (n - k) k)) := by
  have L : ∀ m j k, k + m = n → m < j → f_M_blankFrom_L2 f (nI n) j (nI k) = some (nI (z_bl tb m k)) := by
    intro m
    induction m with
    | zero =>
      intro j k hk hj
      obtain ⟨j, rfl⟩ : ∃ j', j = j' + 1 := ⟨j - 1, by omega⟩
      rw [f_M_blankFrom_L2, if_pos (by rw [nI_leI (by omega) (by omega)]; omega)]
      rfl
    | succ m ih =>
      intro j k hk hj
      obtain ⟨j, rfl⟩ : ∃ j', j = j' + 1 := ⟨j - 1, by omega⟩
      have h1 := h k (by omega)
      rw [f_M_blankFrom_L2, if_neg (by rw [nI_leI (by omega) (by omega)]; omega), z_ai (by omega) (by omega), z_tm_e h1]
      unfold z_bl
      by_cases c : tb k = 32
      · rw [if_pos ((z_sb32 _ h1.1).mpr c), if_pos c]
      · rw [if_neg (fun z => c ((z_sb32 _ h1.1).mp z)), if_neg c, nI_1, z_nm]
        exact ih j (k + 1) (by omega) (by omega)
  unfold f_M_blankFrom
  rw [L (n - k) N k (by omega) (by omega), q_b1_s]
/-- the words -/
def z_wl : List (List Nat) := [[110, 111, 114, 116, 104], [101, 97, 115, 116], [115, 111, 117, 116, 104], [119, 101, 115, 116], [97, 98, 111, 118, 101], [115, 116, 101, 112, 115], [98, 101, 116, 119, 101, 101, 110]]
def z_wn (k : Nat) : Nat := (z_wl.getD k []).length
def z_wc (k i : Nat) : Nat := (z_wl.getD k []).getD i 0
abbrev z_isw (tb : Nat → Nat) (k e : Nat) : Prop := e = z_wn k ∧ ∀ i, i < e → tb i = z_wc k i
theorem z_wn_in : ∀ k, k < 7 → f_JString_length_8abf5 k = some (nI (z_wn k)) ∧ z_wn k ≤ 7 ∧ 4 ≤ z_wn k := by decide +kernel
theorem z_wc_in : ∀ k, k < 7 → ∀ i, i < z_wn k → f_JString_charAt_5068e k (nI i) = some (nI (z_wc k i)) ∧ 97 ≤ z_wc k i ∧ z_wc k i ≤ 122 := by decide +kernel
theorem r_isWord (h : l_tX t tb f) (he : e ≤ t) (ht : t ≤ 200) (hN : 1000 ≤ N) {k : Nat} (hk : k < 7) : f_Tape_isWord N k f (nI t) (nI e) = some (if z_isw tb k e then 1 else 0) := by
  obtain ⟨w1, w2, -⟩ := z_wn_in k hk
  have L : ∀ m j i, i + m = z_wn k → m < j → e = z_wn k → (∀ q, q < i → tb q = z_wc k q) → f_Tape_isWord_L20 k (nI e) f j (nI i) = some (if z_isw tb k e then .inl () else .inr 0) := by
    intro m
    induction m with
    | zero =>
      intro j i hi hj hew hp
      obtain ⟨j, rfl⟩ : ∃ j', j = j' + 1 := ⟨j - 1, by omega⟩
      rw [f_Tape_isWord_L20, if_pos (by rw [nI_leI (by omega) (by omega)]; omega), if_pos ⟨hew, fun q hq => hp q (by omega)⟩]
    | succ m ih =>
      intro j i hi hj hew hp
      obtain ⟨j, rfl⟩ : ∃ j', j = j' + 1 := ⟨j - 1, by omega⟩
      obtain ⟨h1, h2⟩ := h i (by omega)
      obtain ⟨c1, c2, c3⟩ := z_wc_in k hk i (by omega)
      rw [f_Tape_isWord_L20, if_neg (by rw [nI_leI (by omega) (by omega)]; omega), z_ai (by omega) (by omega), c1, q_b1_s, h2]
      by_cases c : tb i = z_wc k i
      · rw [if_pos (by rw [c]), nI_1, z_nm]
        refine ih j (i + 1) (by omega) (by omega) hew (fun q hq => ?_)
        by_cases eq : q = i
        · subst eq; exact c
        · exact hp q (by omega)
      · rw [if_neg (by rw [nI_eq (by omega) (by omega)]; exact c), if_neg (fun z => c (z.2 i (by omega)))]
  unfold f_Tape_isWord
  rw [w1, q_b1_s]
  by_cases c : e = z_wn k
  · rw [if_pos (by rw [c]), if_pos (by rw [nI_leI (by omega) (by omega)]; exact he), z_nm, show (0 : Int32) = nI 0 from rfl, L (z_wn k) N 0 (by omega) (by omega) c (fun q hq => by omega)]
    by_cases c2 : z_isw tb k e
    · rw [if_pos c2, if_pos c2]; rfl
    · rw [if_neg c2, if_neg c2]; rfl
  · rw [if_neg (by rw [nI_eq (by omega) (by omega)]; exact fun z => c z.symm), if_neg (fun z => c z.1)]
/-- which word; 7: none -/
def z_word (tb : Nat → Nat) (e : Nat) : Nat := if z_isw tb 0 e then 0 else if z_isw tb 1 e then 1 else if z_isw tb 2 e then 2 else if z_isw tb 3 e then 3 else if z_isw tb 4 e then 4 else if z_isw tb 5 e then 5 else if z_isw tb 6 e then 6 else 7
theorem z_word_in (tb : Nat → Nat) (e : Nat) : z_word tb e ≤ 7 ∧ (z_word tb e < 7 → z_isw tb (z_word tb e) e) ∧ (z_word tb e = 7 → ∀ k, k < 7 → ¬ z_isw tb k e) := by
  unfold z_word
  by_cases c0 : z_isw tb 0 e
  · rw [if_pos c0]; exact ⟨by decide, fun _ => c0, fun z => absurd z (by decide)⟩
  rw [if_neg c0]
  by_cases c1 : z_isw tb 1 e
  · rw [if_pos c1]; exact ⟨by decide, fun _ => c1, fun z => absurd z (by decide)⟩
  rw [if_neg c1]
  by_cases c2 : z_isw tb 2 e
  · rw [if_pos c2]; exact ⟨by decide, fun _ => c2, fun z => absurd z (by decide)⟩
  rw [if_neg c2]
  by_cases c3 : z_isw tb 3 e
  · rw [if_pos c3]; exact ⟨by decide, fun _ => c3, fun z => absurd z (by decide)⟩
  rw [if_neg c3]
  by_cases c4 : z_isw tb 4 e
  · rw [if_pos c4]; exact ⟨by decide, fun _ => c4, fun z => absurd z (by decide)⟩
  rw [if_neg c4]
  by_cases c5 : z_isw tb 5 e
  · rw [if_pos c5]; exact ⟨by decide, fun _ => c5, fun z => absurd z (by decide)⟩
  rw [if_neg c5]
  by_cases c6 : z_isw tb 6 e
  · rw [if_pos c6]; exact ⟨by decide, fun _ => c6, fun z => absurd z (by decide)⟩
  rw [if_neg c6]
  refine ⟨by decide, fun z => absurd z (by decide), fun _ k hk => ?_⟩
  rcases (show k = 0 ∨ k = 1 ∨ k = 2 ∨ k = 3 ∨ k = 4 ∨ k = 5 ∨ k = 6 by omega) with rfl | rfl | rfl | rfl | rfl | rfl | rfl <;> assumption
theorem r_wordTo (h : l_tX t tb f) (he : e ≤ t) (ht : t ≤ 200) (hN : 1000 ≤ N) : f_Question_wordTo N f (nI t) (nI e) = some (if z_word tb e = 7 then -1 else nI (z_word tb e)) := by
  have w := fun k hk => r_isWord (N := N) h he ht hN (k := k) hk
  unfold f_Question_wordTo z_word
  rw [w 0 (by omega), q_b1_s]
  by_cases c0 : z_isw tb 0 e
  · rw [if_pos c0, if_neg (by decide), if_pos c0, if_neg (by decide)]; rfl
  rw [if_neg c0, if_pos rfl, if_neg c0, w 1 (by omega), q_b1_s]
  by_cases c1 : z_isw tb 1 e
  · rw [if_pos c1, if_neg (by decide), if_pos c1, if_neg (by decide)]; rfl
  rw [if_neg c1, if_pos rfl, if_neg c1, w 2 (by omega), q_b1_s]
  by_cases c2 : z_isw tb 2 e
  · rw [if_pos c2, if_neg (by decide), if_pos c2, if_neg (by decide)]; rfl
  rw [if_neg c2, if_pos rfl, if_neg c2, w 3 (by omega), q_b1_s]
  by_cases c3 : z_isw tb 3 e
  · rw [if_pos c3, if_neg (by decide), if_pos c3, if_neg (by decide)]; rfl
  rw [if_neg c3, if_pos rfl, if_neg c3, w 4 (by omega), q_b1_s]
  by_cases c4 : z_isw tb 4 e
  · rw [if_pos c4, if_neg (by decide), if_pos c4, if_neg (by decide)]; rfl
  rw [if_neg c4, if_pos rfl, if_neg c4, w 5 (by omega), q_b1_s]
  by_cases c5 : z_isw tb 5 e
  · rw [if_pos c5, if_neg (by decide), if_pos c5, if_neg (by decide)]; rfl
  rw [if_neg c5, if_pos rfl, if_neg c5, w 6 (by omega), q_b1_s]
  by_cases c6 : z_isw tb 6 e
  · rw [if_pos c6, if_neg (by decide), if_pos c6, if_neg (by decide)]; rfl
  rw [if_neg c6, if_pos rfl, if_neg c6, if_pos rfl]
/-- a word as a number -/
def z_w32 (tb : Nat → Nat) : Nat → Nat
  | 0 => 0
  | n + 1 => 32 * z_w32 tb n + (tb n - 96)
theorem z_w32_one {a b : Nat → Nat} : ∀ e e2, (∀ i, i < e → 97 ≤ a i ∧ a i ≤ 122) → (∀ i, i < e2 → 97 ≤ b i ∧ b i ≤ 122) → z_w32 a e = z_w32 b e2 → e = e2 ∧ ∀ i, i < e → a i = b i := by
  intro e
  induction e with
  | zero =>
    intro e2 _ hb h
    rcases Nat.eq_zero_or_pos e2 with z | z
    · exact ⟨z.symm, fun i hi => by omega⟩
    · obtain ⟨m, rfl⟩ : ∃ m, e2 = m + 1 := ⟨e2 - 1, by omega⟩
      have := hb m (by omega)
      unfold z_w32 at h
      omega
  | succ e ih =>
    intro e2 ha hb h
    have h1 := ha e (by omega)
    rcases Nat.eq_zero_or_pos e2 with z | z
    · subst z
      unfold z_w32 at h
      omega
    · obtain ⟨m, rfl⟩ : ∃ m, e2 = m + 1 := ⟨e2 - 1, by omega⟩
      have h2 := hb m (by omega)
      unfold z_w32 at h
      obtain ⟨i1, i2⟩ := ih m (fun i hi => ha i (by omega)) (fun i hi => hb i (by omega)) (by omega)
      subst i1
      refine ⟨rfl, fun i hi => ?_⟩
      by_cases ei : i = e
      · subst ei; omega
      · exact i2 i (by omega)
theorem z_w32_b {a : Nat → Nat} : ∀ e, e ≤ 8 → (∀ i, i < e → 97 ≤ a i ∧ a i ≤ 122) → z_w32 a e < 32 ^ e := by
  intro e
  induction e with
  | zero => intro _ _; exact Nat.one_pos
  | succ e ih =>
    intro he ha
    have h1 := ha e (by omega)
    have h2 := ih (by omega) (fun i hi => ha i (by omega))
    unfold z_w32
    rw [Nat.pow_succ]
    omega
abbrev z_let (tb : Nat → Nat) (e : Nat) : Prop := e ≤ 8 ∧ ∀ i, i < e → 97 ≤ tb i ∧ tb i ≤ 122
def z_wv (tb : Nat → Nat) (e : Nat) : Int64 := if z_let tb e then lN (z_w32 tb e) else -1
theorem z_sbl : ∀ b, b < 256 → (97 ≤ ((nI b).toInt8.toInt32).toInt ∧ ((nI b).toInt8.toInt32).toInt ≤ 122 ↔ 97 ≤ b ∧ b ≤ 122) := by decide +kernel
theorem r_wordToM (h : l_tM t tb f) (he : e ≤ t) (ht : t ≤ 200) (hN : 1000 ≤ N) : f_M_wordTo N f (nI e) = some (z_wv tb e) := by
  have L : ∀ m j i, i + m = e → m < j → i ≤ 8 → (∀ q, q < i → 97 ≤ tb q ∧ tb q ≤ 122) → f_M_wordTo_L5 f (nI e) j (lN (z_w32 tb i)) (nI i) = some (if z_let tb e then .inl (lN (z_w32 tb e)) else .inr (-1)) := by
    intro m
    induction m with
    | zero =>
      intro j i hi hj h8 hp
      obtain ⟨j, rfl⟩ : ∃ j', j = j' + 1 := ⟨j - 1, by omega⟩
      have : i = e := by omega
      subst this
      rw [f_M_wordTo_L5, if_pos (by rw [nI_leI (by omega) (by omega)]; omega), if_pos ⟨h8, hp⟩]
    | succ m ih =>
      intro j i hi hj h8 hp
      obtain ⟨j, rfl⟩ : ∃ j', j = j' + 1 := ⟨j - 1, by omega⟩
      have h1 := h i (by omega)
      have h3 := z_tm_e h1
      have hin : f_M_in (f i).toInt64 97 122 = some (if 97 ≤ tb i ∧ tb i ≤ 122 then 1 else 0) := by
        rw [m_in, z_toL, h3, show (97 : Int64).toInt = 97 from rfl, show (122 : Int64).toInt = 122 from rfl]
        by_cases c : 97 ≤ tb i ∧ tb i ≤ 122
        · rw [if_pos c, if_pos ((z_sbl _ h1.1).mpr c)]
        · rw [if_neg c, if_neg (fun z => c ((z_sbl _ h1.1).mp z))]
      rw [f_M_wordTo_L5, if_neg (by rw [nI_leI (by omega) (by omega)]; omega), z_ai (by omega) (by omega), hin, q_b1_s]
      by_cases c : 97 ≤ tb i ∧ tb i ≤ 122
      · rw [if_pos c, if_neg (show ¬ (1 : Int32) = 0 by decide)]
        by_cases c7 : i ≤ 7
        · rw [if_pos (by rw [z_i 7, nI_leI (by omega) (by omega)]; exact c7), z_ai (by omega) (by omega), z_tm_7 h1 (by omega), nI_l (by omega), z_l 32, lN_mul, lN_add, z_l 97, lN_sub (by omega), z_l 1, lN_add, z_nm, nI_1, z_nm]
          have e2 : 32 * z_w32 tb i + tb i - 97 + 1 = z_w32 tb (i + 1) := by
            show _ = 32 * z_w32 tb i + (tb i - 96)
            omega
          rw [e2]
          refine ih j (i + 1) (by omega) (by omega) (by omega) (fun q hq => ?_)
          by_cases eq : q = i
          · subst eq; exact c
          · exact hp q (by omega)
        · rw [if_neg (by rw [z_i 7, nI_leI (by omega) (by omega)]; exact c7), if_neg (fun z => by have := z.1; omega)]
      · rw [if_neg c, if_pos rfl, if_neg (fun z => c (z.2 i (by omega)))]
  unfold f_M_wordTo z_wv
  rw [z_nm, z_nm, show (0 : Int64) = lN (z_w32 tb 0) from rfl, show (0 : Int32) = nI 0 from rfl, L e N 0 (by omega) (by omega) (by omega) (fun q hq => by omega)]
  by_cases c : z_let tb e
  · rw [if_pos c, if_pos c]; rfl
  · rw [if_neg c, if_neg c]; rfl
/-- the words' numbers -/
def z_W : List Nat := [15190664, 165492, 20436616, 759412, 1130181, 20583955, 2336986286]
theorem z_W_in : ∀ k, k < 7 → z_W.getD k 0 = z_w32 (z_wc k) (z_wn k) ∧ z_W.getD k 0 < 2 ^ 62 ∧ ¬ (-1 : Int64) = lN (z_W.getD k 0) := by decide +kernel
theorem z_W_one : ∀ j, j < 7 → ∀ k, k < 7 → z_W.getD j 0 = z_W.getD k 0 → j = k := by decide +kernel
theorem z_wv_k {k : Nat} (hk : k < 7) : lg_cmp (z_wv tb e) (lN (z_W.getD k 0)) = 0 ↔ z_isw tb k e := by
  obtain ⟨a1, a2, a3⟩ := z_W_in k hk
  obtain ⟨-, b1, -⟩ := z_wn_in k hk
  have hw : ∀ i, i < z_wn k → 97 ≤ z_wc k i ∧ z_wc k i ≤ 122 := fun i hi => (z_wc_in k hk i hi).2
  rw [z_lcmpE]
  unfold z_wv
  by_cases c : z_let tb e
  · have h8 := z_w32_b e c.1 c.2
    have h9 : 32 ^ e ≤ 32 ^ 8 := Nat.pow_le_pow_right (by omega) c.1
    have h10 : (32 : Nat) ^ 8 < 2 ^ 62 := by decide
    rw [if_pos c, pk_lEQ (by omega) (by omega), a1]
    constructor
    · intro z
      exact z_w32_one e (z_wn k) c.2 hw z
    · rintro ⟨rfl, z⟩
      have : ∀ m, m ≤ z_wn k → z_w32 tb m = z_w32 (z_wc k) m := by
        intro m
        induction m with
        | zero => intro _; rfl
        | succ m ih =>
          intro hm
          show 32 * z_w32 tb m + (tb m - 96) = 32 * z_w32 (z_wc k) m + (z_wc k m - 96)
          rw [ih (by omega), z m (by omega)]
      exact this _ (Nat.le_refl _)
  · rw [if_neg c]
    constructor
    · intro z; exact absurd z a3
    · rintro ⟨rfl, z⟩
      exact absurd ⟨by omega, fun i hi => by rw [z i hi]; exact hw i hi⟩ c
theorem z_isw_one {j k : Nat} (hj : j < 7) (hk : k < 7) (h1 : z_isw tb j e) (h2 : z_isw tb k e) : j = k := by
  have a := (z_wv_k hj).mpr h1
  have b := (z_wv_k hk).mpr h2
  rw [z_lcmpE] at a b
  rw [a] at b
  obtain ⟨-, x, -⟩ := z_W_in j hj
  obtain ⟨-, y, -⟩ := z_W_in k hk
  rw [pk_lEQ (by omega) (by omega)] at b
  exact z_W_one j hj k hk b
/-- of a text with a word: which number it is -/
theorem z_wv_w {k : Nat} (hk : k < 7) : lg_cmp (z_wv tb e) (lN (z_W.getD k 0)) = 0 ↔ z_word tb e = k := by
  rw [z_wv_k hk]
  obtain ⟨a, b, c⟩ := z_word_in tb e
  constructor
  · intro z
    rcases Nat.lt_or_ge (z_word tb e) 7 with w | w
    · exact z_isw_one w hk (b w) z
    · exact absurd z (c (by omega) k hk)
  · rintro rfl
    exact b hk
end S20A
/-! the class reads a question -/
section S20B
variable {R C : Nat → Nat} {rc cc br zc rw sh cr cq dp wd za : Nat → Int32} {N t e n : Nat} {f : Nat → Int32} {tb : Nat → Nat}
/-- a question: fault, place, too soon, word, level, key, level, key -/
abbrev z_Q : Type := Nat × Nat × Int32 × Nat × Nat × Nat × Nat × Nat
def nq (R C : Nat → Nat) (tb : Nat → Nat) (n : Nat) : z_Q :=
  if z_bl tb n 0 = n then (1, n, 1, 0, 0, 0, 0, 0)
  else if z_word tb (z_bl tb n 0) = 7 then (1, 0, 0, 0, 0, 0, 0, 0)
  else if z_word tb (z_bl tb n 0) < 5 then
    (if (nm_rd R C tb n (z_bl tb n 0 + 1)).1 = 0 then (0, 0, 0, z_word tb (z_bl tb n 0), (nm_rd R C tb n (z_bl tb n 0 + 1)).2.2.1, (nm_rd R C tb n (z_bl tb n 0 + 1)).2.2.2, 0, 0)
     else ((nm_rd R C tb n (z_bl tb n 0 + 1)).1, (nm_rd R C tb n (z_bl tb n 0 + 1)).2.1, z_er n (nm_rd R C tb n (z_bl tb n 0 + 1)).1 (nm_rd R C tb n (z_bl tb n 0 + 1)).2.1, 0, 0, 0, 0, 0))
  else
    (fun b2 => (fun S : Nat × Nat × Nat × Nat => if S.1 = 0 then
        (if b2 = n then (1, n, 1, 0, 0, 0, 0, 0)
         else (fun S2 : Nat × Nat × Nat × Nat => if S2.1 = 0 then (0, 0, 0, z_word tb (z_bl tb n 0), S.2.2.1, S.2.2.2, S2.2.2.1, S2.2.2.2) else (S2.1, S2.2.1, z_er n S2.1 S2.2.1, 0, 0, 0, 0, 0)) (nm_rd R C tb n (b2 + 1)))
      else (S.1, S.2.1, z_er b2 S.1 S.2.1, 0, 0, 0, 0, 0)) (nm_rd R C tb b2 (z_bl tb n 0 + 1))) (z_bl tb (n - (z_bl tb n 0 + 1)) (z_bl tb n 0 + 1))
/-- a question read by the class -/
def z_qX (Q : z_Q) (a w lv ky l2 k2 fa fp es : Int32) : Prop :=
  (Q.1 = 0 ∧ a = 1 ∧ w = nI Q.2.2.2.1 ∧ lv = nI Q.2.2.2.2.1 ∧ ky = nI Q.2.2.2.2.2.1 ∧ (Q.2.2.2.1 < 5 ∨ (l2 = nI Q.2.2.2.2.2.2.1 ∧ k2 = nI Q.2.2.2.2.2.2.2))) ∨ (Q.1 ≠ 0 ∧ a = 0 ∧ fa = nI Q.1 ∧ fp = nI Q.2.1 ∧ es = Q.2.2.1)
theorem r_fwb (a b c p : Int32) : f_NameReader_failWithoutBlank a b c p = some (0, 1, p, 1) := rfl
theorem r_question (g : GOK R C (z_pr R) (z_pr C) rc cc br zc rw sh) (h : l_tX t tb f) (hn : n ≤ t) (ht : t ≤ 200) (hN : 1000 ≤ N) (qw ql qk ol ok nx en lv ky fa fp es : Int32) : Ok (f_Question_read N qw ql qk ol ok nx en lv ky fa fp es f (nI t) rc cc br zc rw sh (nI n)) (fun y => z_qX (nq R C tb n) y.1 y.2.1 y.2.2.1 y.2.2.2.1 y.2.2.2.2.1 y.2.2.2.2.2.1 y.2.2.2.2.2.2.2.2.2.2.1 y.2.2.2.2.2.2.2.2.2.2.2.1 y.2.2.2.2.2.2.2.2.2.2.2.2) := by
  have hb := z_bl_in tb n 0
  have hbf := r_blankFrom (N := N) h hn ht hN (k := 0) (by omega)
  rw [Nat.sub_zero] at hbf
  have hbf0 : f_Tape_blankFrom N f (nI t) 0 (nI n) = some (nI (z_bl tb n 0)) := hbf
  unfold f_Question_read nq
  rw [hbf0, q_b1_s]
  generalize hbl : z_bl tb n 0 = bl at *
  by_cases c1 : bl = n
  · rw [if_pos (by rw [c1]), if_pos c1, r_fwb, q_b4_s]
    exact Ok.bo (Or.inl rfl) (Ok.ret (Or.inr ⟨by show ¬ (1 : Nat) = 0; omega, rfl, rfl, rfl, rfl⟩))
  rw [if_neg (by rw [nI_eq (by omega) (by omega)]; exact c1), if_neg c1, r_wordTo h (by omega) ht hN, q_b1_s]
  obtain ⟨w1, w2, w3⟩ := z_word_in tb bl
  generalize hw : z_word tb bl = w at *
  by_cases c2 : w = 7
  · rw [if_pos c2, if_pos c2, if_pos rfl]
    unfold f_NameReader_fail
    rw [q_b4_s]
    exact Ok.bo (Or.inl rfl) (Ok.ret (Or.inr ⟨by show ¬ (1 : Nat) = 0; omega, rfl, rfl, rfl, rfl⟩))
  rw [if_neg c2, if_neg c2, if_neg (z_nIm1 (by omega)), z_j1]
  dsimp only
  by_cases c3 : w < 5
  · rw [if_pos c3]
    have K : Ok (q_j1 (fun (v4 : Int32) => (
      q_b8 (f_NameReader_read N nx en lv ky fa fp es f (nI t) rc cc br zc rw sh (nI bl + 1) v4) (fun (v5 : Int32) (v6 : Int32) (v7 : Int32) (v8 : Int32) (v9 : Int32) (v10 : Int32) (v11 : Int32) (v12 : Int32) =>
      if v5 = 0 then (
      some (0, nI w, ql, qk, ol, ok, v6, v7, v8, v9, v10, v11, v12)) else (
      q_j9 (fun (v13 : Int32) (v14 : Int32) (v15 : Int32) (v16 : Int32) (v17 : Int32) (v18 : Int32) (v19 : Int32) (v20 : Int32) (v21 : Int32) => (
      some (1, nI w, v8, v9, v13, v14, v15, v16, v17, v18, v19, v20, v21) : Option (Int32 × Int32 × Int32 × Int32 × Int32 × Int32 × Int32 × Int32 × Int32 × Int32 × Int32 × Int32 × Int32))) (fun (k150 : Int32 → Int32 → Int32 → Int32 → Int32 → Int32 → Int32 → Int32 → Int32 → Option (Int32 × Int32 × Int32 × Int32 × Int32 × Int32 × Int32 × Int32 × Int32 × Int32 × Int32 × Int32 × Int32)) =>
      if (0 : Int32) = 0 then (
      k150 ol ok v6 v7 v8 v9 v10 v11 v12) else (
      q_b10 (f_Question_readOther N ol ok v6 v7 v8 v9 v10 v11 v12 f (nI t) rc cc br zc rw sh (v4 + 1) (nI n)) (fun (v22 : Int32) (v23 : Int32) (v24 : Int32) (v25 : Int32) (v26 : Int32) (v27 : Int32) (v28 : Int32) (v29 : Int32) (v30 : Int32) (v31 : Int32) =>
      if v22 = 0 then (
      some (0, nI w, v8, v9, v23, v24, v25, v26, v27, v28, v29, v30, v31)) else (
      k150 v23 v24 v25 v26 v27 v28 v29 v30 v31)))))) : Option (Int32 × Int32 × Int32 × Int32 × Int32 × Int32 × Int32 × Int32 × Int32 × Int32 × Int32 × Int32 × Int32))) (fun (k93 : Int32 → Option (Int32 × Int32 × Int32 × Int32 × Int32 × Int32 × Int32 × Int32 × Int32 × Int32 × Int32 × Int32 × Int32)) =>
      if (0 : Int32) = 0 then (
      k93 (nI n)) else (
      q_b1 (f_Tape_blankFrom N f (nI t) (nI bl + 1) (nI n)) (fun (v32 : Int32) =>
      k93 v32))) : Option (Int32 × Int32 × Int32 × Int32 × Int32 × Int32 × Int32 × Int32 × Int32 × Int32 × Int32 × Int32 × Int32)) (fun y => z_qX (if (nm_rd R C tb n (bl + 1)).1 = 0 then (0, 0, 0, w, (nm_rd R C tb n (bl + 1)).2.2.1, (nm_rd R C tb n (bl + 1)).2.2.2, 0, 0) else ((nm_rd R C tb n (bl + 1)).1, (nm_rd R C tb n (bl + 1)).2.1, z_er n (nm_rd R C tb n (bl + 1)).1 (nm_rd R C tb n (bl + 1)).2.1, 0, 0, 0, 0, 0)) y.1 y.2.1 y.2.2.1 y.2.2.2.1 y.2.2.2.2.1 y.2.2.2.2.2.1 y.2.2.2.2.2.2.2.2.2.2.1 y.2.2.2.2.2.2.2.2.2.2.2.1 y.2.2.2.2.2.2.2.2.2.2.2.2) := by
      rw [z_j1, if_pos rfl]
      dsimp only
      rw [nI_1]
      refine Ok.b8 (r_read g h hn ht hN (i := bl + 1) (by omega) nx en lv ky fa fp es) (fun v5 v6 v7 v8 v9 v10 v11 v12 hx => ?_)
      rcases hx with ⟨hF, x1, x2, x3⟩ | ⟨hF, x1, x2, x3, x4⟩
      · dsimp only at x1 x2 x3
        subst x1; subst x2; subst x3
        rw [if_neg (by decide), if_pos hF]
        rw [z_j9, if_pos rfl]
        exact Ok.ret (Or.inl ⟨rfl, rfl, rfl, rfl, rfl, Or.inl c3⟩)
      · dsimp only at x1 x2 x3 x4
        subst x1
        rw [if_pos rfl, if_neg hF]
        exact Ok.ret (Or.inr ⟨hF, rfl, x2, x3, x4⟩)
    rw [z_j0, if_neg (by rw [z_i 5, nI_eq (by omega) (by omega)]; omega), if_neg (by rw [z_i 6, nI_eq (by omega) (by omega)]; omega)]
    exact K
  · rw [if_neg c3]
    have hbf2 := r_blankFrom (N := N) h hn ht hN (k := bl + 1) (by omega)
    have hb2 := z_bl_in tb (n - (bl + 1)) (bl + 1)
    generalize hb2e : z_bl tb (n - (bl + 1)) (bl + 1) = b2 at *
    have K : Ok (q_j1 (fun (v4 : Int32) => (
      q_b8 (f_NameReader_read N nx en lv ky fa fp es f (nI t) rc cc br zc rw sh (nI bl + 1) v4) (fun (v5 : Int32) (v6 : Int32) (v7 : Int32) (v8 : Int32) (v9 : Int32) (v10 : Int32) (v11 : Int32) (v12 : Int32) =>
      if v5 = 0 then (
      some (0, nI w, ql, qk, ol, ok, v6, v7, v8, v9, v10, v11, v12)) else (
      q_j9 (fun (v13 : Int32) (v14 : Int32) (v15 : Int32) (v16 : Int32) (v17 : Int32) (v18 : Int32) (v19 : Int32) (v20 : Int32) (v21 : Int32) => (
      some (1, nI w, v8, v9, v13, v14, v15, v16, v17, v18, v19, v20, v21) : Option (Int32 × Int32 × Int32 × Int32 × Int32 × Int32 × Int32 × Int32 × Int32 × Int32 × Int32 × Int32 × Int32))) (fun (k150 : Int32 → Int32 → Int32 → Int32 → Int32 → Int32 → Int32 → Int32 → Int32 → Option (Int32 × Int32 × Int32 × Int32 × Int32 × Int32 × Int32 × Int32 × Int32 × Int32 × Int32 × Int32 × Int32)) =>
      if (1 : Int32) = 0 then (
      k150 ol ok v6 v7 v8 v9 v10 v11 v12) else (
      q_b10 (f_Question_readOther N ol ok v6 v7 v8 v9 v10 v11 v12 f (nI t) rc cc br zc rw sh (v4 + 1) (nI n)) (fun (v22 : Int32) (v23 : Int32) (v24 : Int32) (v25 : Int32) (v26 : Int32) (v27 : Int32) (v28 : Int32) (v29 : Int32) (v30 : Int32) (v31 : Int32) =>
      if v22 = 0 then (
      some (0, nI w, v8, v9, v23, v24, v25, v26, v27, v28, v29, v30, v31)) else (
      k150 v23 v24 v25 v26 v27 v28 v29 v30 v31)))))) : Option (Int32 × Int32 × Int32 × Int32 × Int32 × Int32 × Int32 × Int32 × Int32 × Int32 × Int32 × Int32 × Int32))) (fun (k93 : Int32 → Option (Int32 × Int32 × Int32 × Int32 × Int32 × Int32 × Int32 × Int32 × Int32 × Int32 × Int32 × Int32 × Int32)) =>
      if (1 : Int32) = 0 then (
      k93 (nI n)) else (
      q_b1 (f_Tape_blankFrom N f (nI t) (nI bl + 1) (nI n)) (fun (v32 : Int32) =>
      k93 v32))) : Option (Int32 × Int32 × Int32 × Int32 × Int32 × Int32 × Int32 × Int32 × Int32 × Int32 × Int32 × Int32 × Int32)) (fun y => z_qX (if (nm_rd R C tb b2 (bl + 1)).1 = 0 then (if b2 = n then (1, n, 1, 0, 0, 0, 0, 0) else if (nm_rd R C tb n (b2 + 1)).1 = 0 then (0, 0, 0, w, (nm_rd R C tb b2 (bl + 1)).2.2.1, (nm_rd R C tb b2 (bl + 1)).2.2.2, (nm_rd R C tb n (b2 + 1)).2.2.1, (nm_rd R C tb n (b2 + 1)).2.2.2) else ((nm_rd R C tb n (b2 + 1)).1, (nm_rd R C tb n (b2 + 1)).2.1, z_er n (nm_rd R C tb n (b2 + 1)).1 (nm_rd R C tb n (b2 + 1)).2.1, 0, 0, 0, 0, 0)) else ((nm_rd R C tb b2 (bl + 1)).1, (nm_rd R C tb b2 (bl + 1)).2.1, z_er b2 (nm_rd R C tb b2 (bl + 1)).1 (nm_rd R C tb b2 (bl + 1)).2.1, 0, 0, 0, 0, 0)) y.1 y.2.1 y.2.2.1 y.2.2.2.1 y.2.2.2.2.1 y.2.2.2.2.2.1 y.2.2.2.2.2.2.2.2.2.2.1 y.2.2.2.2.2.2.2.2.2.2.2.1 y.2.2.2.2.2.2.2.2.2.2.2.2) := by
      rw [z_j1, if_neg (by decide), nI_1, hbf2, q_b1_s]
      dsimp only
      refine Ok.b8 (r_read g h (e := b2) (by omega) ht hN (i := bl + 1) (by omega) nx en lv ky fa fp es) (fun v5 v6 v7 v8 v9 v10 v11 v12 hx => ?_)
      rcases hx with ⟨hF, x1, x2, x3⟩ | ⟨hF, x1, x2, x3, x4⟩
      · dsimp only at x1 x2 x3
        subst x1; subst x2; subst x3
        rw [if_neg (by decide), if_pos hF]
        rw [z_j9, if_neg (by decide), nI_1]
        unfold f_Question_readOther
        by_cases c4 : b2 = n
        · rw [if_neg (by rw [nI_leI (by omega) (by omega)]; omega), r_fwb, q_b4_s, z_bo (Or.inl rfl), q_b10_s, if_pos rfl, if_pos c4]
          exact Ok.ret (Or.inr ⟨by show ¬ (1 : Nat) = 0; omega, rfl, rfl, rfl, rfl⟩)
        · rw [if_pos (by rw [nI_leI (by omega) (by omega)]; omega), if_neg c4]
          have hro : Ok (q_b8 (f_NameReader_read N v6 v7 (nI (nm_rd R C tb b2 (bl + 1)).2.2.1) (nI (nm_rd R C tb b2 (bl + 1)).2.2.2) v10 v11 v12 f (nI t) rc cc br zc rw sh (nI (b2 + 1)) (nI n)) (fun (v1 : Int32) (v2 : Int32) (v3 : Int32) (v4 : Int32) (v5 : Int32) (v6 : Int32) (v7 : Int32) (v8 : Int32) =>
            if v1 = 0 then (
            some (0, ol, ok, v2, v3, v4, v5, v6, v7, v8)) else (
            some (1, v4, v5, v2, v3, v4, v5, v6, v7, v8))) : Option (Int32 × Int32 × Int32 × Int32 × Int32 × Int32 × Int32 × Int32 × Int32 × Int32)) (fun z => z_rdX (z_pr R) (z_pr C) n (nm_rd R C tb n (b2 + 1)) z.1 z.2.1 z.2.2.1 z.2.2.2.2.2.2.2.1 z.2.2.2.2.2.2.2.2.1 z.2.2.2.2.2.2.2.2.2) := by
            refine Ok.b8 (r_read g h (e := n) hn ht hN (i := b2 + 1) (by omega) _ _ _ _ _ _ _) (fun u1 u2 u3 u4 u5 u6 u7 u8 hy => ?_)
            rcases hy with ⟨hF2, y1, y2, y3⟩ | ⟨hF2, y1, y2, y3, y4⟩
            · dsimp only at y1 y2 y3
              subst y1; subst y2; subst y3
              rw [if_neg (by decide)]
              exact Ok.ret (Or.inl ⟨hF2, rfl, rfl, rfl⟩)
            · dsimp only at y1 y2 y3 y4
              subst y1
              rw [if_pos rfl]
              exact Ok.ret (Or.inr ⟨hF2, rfl, y2, y3, y4⟩)
          refine Ok.b10 hro (fun z1 z2 z3 z4 z5 z6 z7 z8 z9 z10 hz => ?_)
          rcases hz with ⟨hF2, y1, y2, y3⟩ | ⟨hF2, y1, y2, y3, y4⟩
          · dsimp only at y1 y2 y3
            subst y1; subst y2; subst y3
            rw [if_neg (by decide), if_pos hF2]
            exact Ok.ret (Or.inl ⟨rfl, rfl, rfl, rfl, rfl, Or.inr ⟨rfl, rfl⟩⟩)
          · dsimp only at y1 y2 y3 y4
            subst y1
            rw [if_pos rfl, if_neg hF2]
            exact Ok.ret (Or.inr ⟨hF2, rfl, y2, y3, y4⟩)
      · dsimp only at x1 x2 x3 x4
        subst x1
        rw [if_pos rfl, if_neg hF]
        exact Ok.ret (Or.inr ⟨hF, rfl, x2, x3, x4⟩)
    rw [z_j0]
    refine Ok.ite (fun _ => K) (fun d5 => Ok.ite (fun _ => K) (fun d6 => ?_))
    rw [z_i 5, nI_eq (by omega) (by omega)] at d5
    rw [z_i 6, nI_eq (by omega) (by omega)] at d6
    omega
/-- what a question gives whose word, names are right -/
theorem nq_in (g : CUT R C (z_pr R) (z_pr C)) (n : Nat) : (nq R C tb n).1 ≤ 3 ∧ (nq R C tb n).2.1 ≤ n ∧ ((nq R C tb n).1 = 0 → (nq R C tb n).2.2.2.1 < 7 ∧ (nq R C tb n).2.2.2.2.1 < 5 ∧ (nq R C tb n).2.2.2.2.2.1 < 2130 * (z_pr R (nq R C tb n).2.2.2.2.1 * z_pr C (nq R C tb n).2.2.2.2.1) + 2 ∧ (5 ≤ (nq R C tb n).2.2.2.1 → (nq R C tb n).2.2.2.2.2.2.1 < 5 ∧ (nq R C tb n).2.2.2.2.2.2.2 < 2130 * (z_pr R (nq R C tb n).2.2.2.2.2.2.1 * z_pr C (nq R C tb n).2.2.2.2.2.2.1) + 2)) := by
  have hb := z_bl_in tb n 0
  unfold nq
  generalize z_bl tb n 0 = bl at *
  by_cases c1 : bl = n
  · rw [if_pos c1]; exact ⟨(show (1 : Nat) ≤ 3 by omega), Nat.le_refl n, fun z => absurd z (by show ¬ (1 : Nat) = 0; omega)⟩
  rw [if_neg c1]
  obtain ⟨w1, w2, w3⟩ := z_word_in tb bl
  generalize z_word tb bl = w at *
  by_cases c2 : w = 7
  · rw [if_pos c2]; exact ⟨(show (1 : Nat) ≤ 3 by omega), Nat.zero_le n, fun z => absurd z (by show ¬ (1 : Nat) = 0; omega)⟩
  rw [if_neg c2]
  by_cases c3 : w < 5
  · rw [if_pos c3]
    obtain ⟨s1, s2, s3⟩ := nm_rd_in g (tb := tb) (e := n) (i := bl + 1) (by omega)
    generalize nm_rd R C tb n (bl + 1) = S at *
    by_cases c4 : S.1 = 0
    · rw [if_pos c4]
      exact ⟨Nat.zero_le 3, Nat.zero_le n, fun _ => ⟨by show w < 7; omega, (s3 c4).1, (s3 c4).2, fun z => absurd z (by show ¬ 5 ≤ w; omega)⟩⟩
    · rw [if_neg c4]; exact ⟨s2, s1, fun z => absurd z c4⟩
  · rw [if_neg c3]
    dsimp only
    have hb2 := z_bl_in tb (n - (bl + 1)) (bl + 1)
    generalize z_bl tb (n - (bl + 1)) (bl + 1) = b2 at *
    obtain ⟨s1, s2, s3⟩ := nm_rd_in g (tb := tb) (e := b2) (i := bl + 1) (by omega)
    generalize nm_rd R C tb b2 (bl + 1) = S at *
    by_cases c4 : S.1 = 0
    · rw [if_pos c4]
      by_cases c5 : b2 = n
      · rw [if_pos c5]; exact ⟨(show (1 : Nat) ≤ 3 by omega), Nat.le_refl n, fun z => absurd z (by show ¬ (1 : Nat) = 0; omega)⟩
      rw [if_neg c5]
      obtain ⟨u1, u2, u3⟩ := nm_rd_in g (tb := tb) (e := n) (i := b2 + 1) (by omega)
      generalize nm_rd R C tb n (b2 + 1) = S2 at *
      by_cases c6 : S2.1 = 0
      · rw [if_pos c6]
        exact ⟨Nat.zero_le 3, Nat.zero_le n, fun _ => ⟨by show w < 7; omega, (s3 c4).1, (s3 c4).2, fun _ => u3 c6⟩⟩
      · rw [if_neg c6]; exact ⟨u2, u1, fun z => absurd z c6⟩
    · rw [if_neg c4]; exact ⟨s2, by show S.2.1 ≤ n; omega, fun z => absurd z c4⟩
theorem nq_er (n : Nat) (h : (nq R C tb n).1 ≠ 0) : (nq R C tb n).2.2.1 = 0 ∨ (nq R C tb n).2.2.1 = 1 := by
  have er : ∀ e F P, z_er e F P = 0 ∨ z_er e F P = 1 := by
    intro e F P
    unfold z_er
    split
    · exact Or.inr rfl
    · exact Or.inl rfl
  revert h
  unfold nq
  by_cases c1 : z_bl tb n 0 = n
  · rw [if_pos c1]; exact fun _ => Or.inr rfl
  rw [if_neg c1]
  by_cases c2 : z_word tb (z_bl tb n 0) = 7
  · rw [if_pos c2]; exact fun _ => Or.inl rfl
  rw [if_neg c2]
  by_cases c3 : z_word tb (z_bl tb n 0) < 5
  · rw [if_pos c3]
    split
    · exact fun z => absurd rfl z
    · exact fun _ => er _ _ _
  · rw [if_neg c3]
    dsimp only
    split
    · split
      · exact fun _ => Or.inr rfl
      · split
        · exact fun z => absurd rfl z
        · exact fun _ => er _ _ _
    · exact fun _ => er _ _ _
end S20B
/-! questions answered: the class -/
section S20C
variable {rc cc br zc rw sh cr cq dp wd za : Nat → Int32} {sv : l_T} {N t n ns : Nat} {f : Nat → Int32} {tb : Nat → Nat}
/-- what a question without a fault is answered -/
def l_aR (sv : l_T) (Q : z_Q) (r : Int32) : Prop :=
  (Q.2.2.2.1 = 4 ∧ Q.2.2.2.2.1 = 0 ∧ r = -2) ∨
  (Q.2.2.2.1 = 4 ∧ Q.2.2.2.2.1 ≠ 0 ∧ ∃ k2, z_upr (z_pr (l_R sv)) (z_pr (l_C sv)) Q.2.2.2.2.1 (Q.2.2.2.2.1 - 1) Q.2.2.2.2.2.1 k2 ∧ r = nI k2) ∨
  (Q.2.2.2.1 < 4 ∧ l_aneighbour sv (nI Q.2.2.2.2.1) (nI Q.2.2.2.2.2.1) (nI Q.2.2.2.1) 0 r) ∨
  (5 ≤ Q.2.2.2.1 ∧ Q.2.2.2.2.1 ≠ Q.2.2.2.2.2.2.1 ∧ r = -2) ∨
  (Q.2.2.2.1 = 5 ∧ Q.2.2.2.2.1 = Q.2.2.2.2.2.2.1 ∧ l_asteps sv (nI Q.2.2.2.2.1) (nI Q.2.2.2.2.2.1) (nI Q.2.2.2.2.2.2.2) r) ∨
  (Q.2.2.2.1 = 6 ∧ Q.2.2.2.2.1 = Q.2.2.2.2.2.2.1 ∧ l_abetween sv (nI Q.2.2.2.2.1) (nI Q.2.2.2.2.2.1) (nI Q.2.2.2.2.2.2.2) r)
theorem l_aR_one {Q : z_Q} {r r' : Int32} (h : l_ok sv) (hl : Q.2.2.2.2.1 < 5) (h1 : l_aR sv Q r) (h2 : l_aR sv Q r') : r = r' := by
  rcases h1 with ⟨a, b, c⟩ | ⟨a, b, k, c, d⟩ | ⟨a, b⟩ | ⟨a, b, c⟩ | ⟨a, b, c⟩ | ⟨a, b, c⟩ <;> rcases h2 with ⟨a', b', c'⟩ | ⟨a', b', k', c', d'⟩ | ⟨a', b'⟩ | ⟨a', b', c'⟩ | ⟨a', b', c'⟩ | ⟨a', b', c'⟩
  all_goals first
    | exact c.trans c'.symm
    | exact l_aneighbour_one h b b'
    | exact l_asteps_one h c c'
    | exact l_abetween_one h c c'
    | (rw [d, d', z_upr_one (h.1.pos _ hl).1 c c'])
    | (exfalso; omega)
    | exact absurd b b'
    | exact absurd b' b
/-- what a question is answered, the counts -/
def z_aP (sv : l_T) (Q : z_Q) (c0 c1 c2 c3 r d0 d1 d2 d3 : Int32) : Prop := z_cnt4 Q.1 Q.2.2.1 c0 c1 c2 c3 d0 d1 d2 d3 ∧ (Q.1 = 0 → l_aR sv Q r) ∧ (Q.1 ≠ 0 → r = z_told Q.1 Q.2.1)
def z_askA (sv : l_T) (t : Nat) (tb : Nat → Nat) (p c0 c1 c2 c3 r ln d0 d1 d2 d3 : Int32) : Prop :=
  (¬ z_txc 100 p t ∧ r = -1 ∧ ln = nI t ∧ d0 = c0 ∧ d1 = c1 ∧ d2 = c2 ∧ d3 = c3) ∨
  (z_txc 100 p t ∧ ln = nI 0 ∧ z_aP sv (nq (l_R sv) (l_C sv) tb p.toInt.toNat) c0 c1 c2 c3 r d0 d1 d2 d3)
theorem r_answerTo (g : GOK (l_R sv) (l_C sv) (z_pr (l_R sv)) (z_pr (l_C sv)) rc cc br zc rw sh) (hN : 3000000 ≤ N) (hs2 : ns < 2 ^ 31) {Q : z_Q} (hw : Q.2.2.2.1 < 7) (hl : Q.2.2.2.2.1 < 5) (hk : Q.2.2.2.2.2.1 < 2130 * (z_pr (l_R sv) Q.2.2.2.2.1 * z_pr (l_C sv) Q.2.2.2.2.1) + 2) (h5 : 5 ≤ Q.2.2.2.1 → Q.2.2.2.2.2.2.1 < 5) {ol ok : Int32} (ho : Q.2.2.2.1 < 5 ∨ (ol = nI Q.2.2.2.2.2.2.1 ∧ ok = nI Q.2.2.2.2.2.2.2)) (f m : Nat → Int32) (a1 a2 a3 a4 a5 a6 : Int32) (a b : Nat → Int32) (mm : Int32) (c d : Nat → Int32) (v1 v2 v3 v4 v5 v6 b1 b2 b3 b4 : Int32) : z_or ns (Ok (f_X_answerTo N ns ns (nI Q.2.2.2.1) (nI Q.2.2.2.2.1) (nI Q.2.2.2.2.2.1) ol ok f m a1 a2 a3 a4 a5 a6 a b mm c d v1 v2 v3 v4 v5 v6 b1 b2 b3 b4 br zc rw sh) (fun x => l_aR sv Q x.1)) (fun nL => Ok (f_X_answerToN N nL ns (nI Q.2.2.2.1) (nI Q.2.2.2.2.1) (nI Q.2.2.2.2.2.1) ol ok f m a1 a2 a3 a4 a5 a6 a b mm c d v1 v2 v3 v4 v5 v6 b1 b2 b3 b4 br zc rw sh) (fun x => l_aR sv Q x.1)) := by
  by_cases h4 : Q.2.2.2.1 = 4
  · left
    unfold f_X_answerTo
    rw [if_pos (show nI Q.2.2.2.1 = 4 by rw [h4]; rfl)]
    by_cases h0 : Q.2.2.2.2.1 = 0
    · rw [if_pos (show nI Q.2.2.2.2.1 = 0 by rw [h0]; rfl)]
      exact Ok.ret (Or.inl ⟨h4, h0, rfl⟩)
    · rw [if_neg (show ¬ nI Q.2.2.2.2.1 = 0 by rw [z_eq0 (by omega)]; exact h0), z_sub1 (by omega)]
      refine Ok.b1 (r_above g (by omega) hl (t := Q.2.2.2.2.1 - 1) (by omega) hk) (fun v hv => ?_)
      obtain ⟨k2, hu, rfl⟩ := hv
      exact Ok.ret (Or.inr (Or.inl ⟨h4, h0, k2, hu, rfl⟩))
  have n4 : ¬ nI Q.2.2.2.1 = 4 := by rw [z_i 4, nI_eq (by omega) (by omega)]; exact h4
  by_cases hw5 : 5 ≤ Q.2.2.2.1
  · have p4 : 4 ≤ nI Q.2.2.2.1 := by rw [z_i 4, nI_leI (by omega) (by omega)]; omega
    have hl2 := h5 hw5
    obtain ⟨rfl, rfl⟩ := ho.resolve_left (by omega)
    by_cases hll : Q.2.2.2.2.1 = Q.2.2.2.2.2.2.1
    · have pll : nI Q.2.2.2.2.1 = nI Q.2.2.2.2.2.2.1 := by rw [hll]
      by_cases h6 : Q.2.2.2.1 = 5
      · have p5 : nI Q.2.2.2.1 = 5 := by rw [h6]; rfl
        rcases a_x_steps g hN hs2 a b mm c d v1 v2 v3 v4 v5 v6 (nI Q.2.2.2.2.1) (nI Q.2.2.2.2.2.1) (nI Q.2.2.2.2.2.2.2) with h | ⟨nL, n1, n2, n3, h⟩
        · left
          unfold f_X_answerTo
          rw [if_neg n4, if_pos p4, if_pos pll, if_pos p5]
          exact Ok.b12 h (fun _ _ _ _ _ _ _ _ _ _ _ _ hx => Ok.ret (Or.inr (Or.inr (Or.inr (Or.inr (Or.inl ⟨h6, hll, hx⟩))))))
        · right
          refine ⟨nL, n1, n2, n3, ?_⟩
          dsimp only at h ⊢
          unfold f_X_answerToN
          rw [if_neg n4, if_pos p4, if_pos pll, if_pos p5]
          exact Ok.b12 h (fun _ _ _ _ _ _ _ _ _ _ _ _ hx => Ok.ret (Or.inr (Or.inr (Or.inr (Or.inr (Or.inl ⟨h6, hll, hx⟩))))))
      · left
        unfold f_X_answerTo
        rw [if_neg n4, if_pos p4, if_pos pll, if_neg (show ¬ nI Q.2.2.2.1 = 5 by rw [z_i 5, nI_eq (by omega) (by omega)]; exact h6)]
        exact Ok.b11 (a_x_between g (by omega) _ _ _ _ _ _ _ _ _ _ _ _ _) (fun _ _ _ _ _ _ _ _ _ _ _ hx => Ok.ret (Or.inr (Or.inr (Or.inr (Or.inr (Or.inr ⟨by omega, hll, hx⟩))))))
    · left
      unfold f_X_answerTo
      rw [if_neg n4, if_pos p4, if_neg (show ¬ nI Q.2.2.2.2.1 = nI Q.2.2.2.2.2.2.1 by rw [nI_eq (by omega) (by omega)]; exact hll)]
      exact Ok.ret (Or.inr (Or.inr (Or.inr (Or.inl ⟨hw5, hll, rfl⟩))))
  · left
    unfold f_X_answerTo
    rw [if_neg n4, if_neg (show ¬ 4 ≤ nI Q.2.2.2.1 by rw [z_i 4, nI_leI (by omega) (by omega)]; omega)]
    exact Ok.b9 (a_x_neighbour g (by omega) f m _ _ _ _ _ _ _ _ _ _) (fun _ _ _ _ _ _ _ _ _ hx => Ok.ret (Or.inr (Or.inr (Or.inl ⟨by omega, hx⟩))))
theorem r_x_ask (g : GOK (l_R sv) (l_C sv) (z_pr (l_R sv)) (z_pr (l_C sv)) rc cc br zc rw sh) (hN : 3000000 ≤ N) (hs2 : ns < 2 ^ 31) (ht : t ≤ 200) (htb : l_tX t tb f) (qw ql qk ol ok nx e lv ky fa fp es : Int32) (sf sm : Nat → Int32) (a1 a2 a3 a4 a5 a6 : Int32) (a b : Nat → Int32) (mm : Int32) (c d : Nat → Int32) (v1 v2 v3 v4 v5 v6 b1 b2 b3 b4 r1 r2 r3 r4 p : Int32) : z_or ns (Ok (f_X_ask N ns ns qw ql qk ol ok nx e lv ky fa fp es f (nI t) sf sm a1 a2 a3 a4 a5 a6 a b mm c d v1 v2 v3 v4 v5 v6 b1 b2 b3 b4 r1 r2 r3 r4 rc cc br zc rw sh p) (fun x => z_askA sv t tb p r1 r2 r3 r4 x.1 x.2.2.2.2.2.2.2.2.2.2.2.2.2.1 x.2.2.2.2.2.2.2.2.2.2.2.2.2.2.2.2.2.2.2.2.2.2.2.2.2.2.2.2.2.2.2.2.2.2.2.2.2.1 x.2.2.2.2.2.2.2.2.2.2.2.2.2.2.2.2.2.2.2.2.2.2.2.2.2.2.2.2.2.2.2.2.2.2.2.2.2.2.1 x.2.2.2.2.2.2.2.2.2.2.2.2.2.2.2.2.2.2.2.2.2.2.2.2.2.2.2.2.2.2.2.2.2.2.2.2.2.2.2.1 x.2.2.2.2.2.2.2.2.2.2.2.2.2.2.2.2.2.2.2.2.2.2.2.2.2.2.2.2.2.2.2.2.2.2.2.2.2.2.2.2)) (fun nL => Ok (f_X_askN N nL ns qw ql qk ol ok nx e lv ky fa fp es f (nI t) sf sm a1 a2 a3 a4 a5 a6 a b mm c d v1 v2 v3 v4 v5 v6 b1 b2 b3 b4 r1 r2 r3 r4 rc cc br zc rw sh p) (fun x => z_askA sv t tb p r1 r2 r3 r4 x.1 x.2.2.2.2.2.2.2.2.2.2.2.2.2.1 x.2.2.2.2.2.2.2.2.2.2.2.2.2.2.2.2.2.2.2.2.2.2.2.2.2.2.2.2.2.2.2.2.2.2.2.2.2.1 x.2.2.2.2.2.2.2.2.2.2.2.2.2.2.2.2.2.2.2.2.2.2.2.2.2.2.2.2.2.2.2.2.2.2.2.2.2.2.1 x.2.2.2.2.2.2.2.2.2.2.2.2.2.2.2.2.2.2.2.2.2.2.2.2.2.2.2.2.2.2.2.2.2.2.2.2.2.2.2.1 x.2.2.2.2.2.2.2.2.2.2.2.2.2.2.2.2.2.2.2.2.2.2.2.2.2.2.2.2.2.2.2.2.2.2.2.2.2.2.2.2)) := by
  obtain ⟨x1, e1, h1⟩ := s_isFrom p 1 100
  by_cases n1 : x1 = 0
  · left
    unfold f_X_ask
    rw [e1, q_b1_s, if_pos n1]
    exact Ok.ret (Or.inl ⟨fun z => z_if0 h1 n1 ⟨z.1, z.2.1⟩, rfl, rfl, rfl, rfl, rfl, rfl⟩)
  by_cases h3 : ¬ p ≤ nI t
  · left
    unfold f_X_ask
    rw [e1, q_b1_s, if_neg n1, if_neg h3]
    exact Ok.ret (Or.inl ⟨fun z => h3 (z_le.mpr (by rw [nI_toInt (by omega)]; exact z.2.2)), rfl, rfl, rfl, rfl, rfl, rfl⟩)
  have h3 := Decidable.not_not.mp h3
  have h3' := z_le.mp h3
  rw [nI_toInt (by omega)] at h3'
  have hc : z_txc 100 p t := ⟨(z_if1 h1 n1).1, (z_if1 h1 n1).2, h3'⟩
  have hc' := hc
  obtain ⟨hc1, hc2, hc3⟩ := hc'
  obtain ⟨n, j1, rfl, j3⟩ := z_nat (r := p) (by omega)
  have hjt : (nI n).toInt.toNat = n := by rw [j3]; rfl
  obtain ⟨⟨y1, y2, y3, y4, y5, y6, y7, y8, y9, y10, y11, y12, y13⟩, e2, h2⟩ := r_question (N := N) (n := n) g htb (by omega) ht (by omega) qw ql qk ol ok nx e lv ky fa fp es
  obtain ⟨q1, q2, q3⟩ := nq_in g.2 (tb := tb) n
  have key : z_askA sv t tb (nI n) r1 r2 r3 r4 = fun r ln d0 d1 d2 d3 => z_askA sv t tb (nI n) r1 r2 r3 r4 r ln d0 d1 d2 d3 := rfl
  have fin : ∀ r d0 d1 d2 d3 : Int32, z_aP sv (nq (l_R sv) (l_C sv) tb n) r1 r2 r3 r4 r d0 d1 d2 d3 → z_askA sv t tb (nI n) r1 r2 r3 r4 r 0 d0 d1 d2 d3 := fun r d0 d1 d2 d3 h => Or.inr ⟨hc, rfl, by rw [hjt]; exact h⟩
  generalize nq (l_R sv) (l_C sv) tb n = Q at *
  rcases h2 with ⟨hF, x1, x2, x3, x4, x5⟩ | ⟨hF, x1, x2, x3, x4⟩
  · dsimp only at x1 x2 x3 x4 x5
    subst x1; subst x2; subst x3; subst x4
    obtain ⟨k1, k2, k3, k4⟩ := q3 hF
    obtain ⟨⟨u1, u2, u3, u4⟩, e4, hcn⟩ := r_countG y11 y13 r1 r2 r3 r4
    dsimp only at hcn
    rcases r_answerTo g hN hs2 k1 k2 k3 (fun z => (k4 z).1) x5 sf sm a1 a2 a3 a4 a5 a6 a b mm c d v1 v2 v3 v4 v5 v6 b1 b2 b3 b4 with h | ⟨nL, m1, m2, m3, h⟩
    · left
      unfold f_X_ask
      rw [e1, q_b1_s, if_neg n1, if_pos h3, e2, q_b13_s, e4, q_b4_s, if_neg (by decide)]
      exact Ok.b24 h (fun _ _ _ _ _ _ _ _ _ _ _ _ _ _ _ _ _ _ _ _ _ _ _ _ hx => Ok.ret (fin _ _ _ _ _ ⟨by rw [hF]; exact hcn _, fun _ => hx, fun z => absurd hF z⟩))
    · right
      refine ⟨nL, m1, m2, m3, ?_⟩
      dsimp only at h ⊢
      unfold f_X_askN
      rw [e1, q_b1_s, if_neg n1, if_pos h3, e2, q_b13_s, e4, q_b4_s, if_neg (by decide)]
      exact Ok.b24 h (fun _ _ _ _ _ _ _ _ _ _ _ _ _ _ _ _ _ _ _ _ _ _ _ _ hx => Ok.ret (fin _ _ _ _ _ ⟨by rw [hF]; exact hcn _, fun _ => hx, fun z => absurd hF z⟩))
  · dsimp only at x1 x2 x3 x4
    subst x1; subst x2; subst x3; subst x4
    obtain ⟨⟨u1, u2, u3, u4⟩, e4, hcn⟩ := r_countB hF q1 Q.2.2.1 r1 r2 r3 r4
    dsimp only at hcn
    left
    unfold f_X_ask
    rw [e1, q_b1_s, if_neg n1, if_pos h3, e2, q_b13_s, e4, q_b4_s, if_pos rfl]
    unfold f_NameReader_told
    rw [q_b1_s]
    exact Ok.ret (fin _ _ _ _ _ ⟨hcn, fun z => absurd z hF, fun _ => rfl⟩)
end S20C
/-! questions answered: the reference -/
section S20D
variable {rc cc br zc rw sh cr cq dp wd za : Nat → Int32} {sv : l_T} {N t n l : Nat} {f : Nat → Int32} {tb : Nat → Nat}
theorem r_betweenOf (g : MOK (l_R sv) (l_C sv) (z_pr (l_R sv)) (z_pr (l_C sv)) cr cq dp wd za) (hN : 1000000 ≤ N) (bl bo : Int64) (ed : Nat → Int64) (x1 x2 x3 x4 x5 : Int32) (hl : l < 5) {k k2 : Nat} (hk : k < 2130 * (z_pr (l_R sv) l * z_pr (l_C sv) l) + 2) (hk2 : k2 < 2130 * (z_pr (l_R sv) l * z_pr (l_C sv) l) + 2) : Ok (f_M_betweenOf N dp wd za bl bo ed x1 x2 x3 x4 x5 (nI l) (nI k) (nI k2)) (fun y => l_abetween sv (nI l) (nI k) (nI k2) y.1) := by
  have hiff : Ok (f_M_between N dp wd za bl bo ed x1 x2 x3 x4 x5 (nI l) (nI k) (nI k2)) (fun x => l_abetween sv (nI l) (nI k) (nI k2) x.1) := a_m_between g hN bl bo ed x1 x2 x3 x4 x5 (nI l) (nI k) (nI k2)
  have z1 : z_hs (z_pr (l_R sv)) (z_pr (l_C sv)) (nI l) (nI k) := ⟨l, k, hl, rfl, rfl, hk⟩
  have z2 : z_hs (z_pr (l_R sv)) (z_pr (l_C sv)) (nI l) (nI k2) := ⟨l, k2, hl, rfl, rfl, hk2⟩
  have i1 : f_M_isKey dp wd za (nI l) (nI k) = some 1 := by
    obtain ⟨v, e, hv⟩ := r_isKey g (nI l) (nI k)
    rcases hv with ⟨-, rfl⟩ | ⟨z, -⟩
    · exact e
    · exact absurd z1 z
  have i2 : f_M_isKey dp wd za (nI l) (nI k2) = some 1 := by
    obtain ⟨v, e, hv⟩ := r_isKey g (nI l) (nI k2)
    rcases hv with ⟨-, rfl⟩ | ⟨z, -⟩
    · exact e
    · exact absurd z2 z
  unfold f_M_between at hiff
  rw [i1, q_b1_s, if_neg (by decide), i2, q_b1_s, if_neg (by decide)] at hiff
  obtain ⟨y, ey, hy⟩ := hiff
  cases hb : f_M_betweenOf N dp wd za bl bo ed x1 x2 x3 x4 x5 (nI l) (nI k) (nI k2) with
  | none => rw [hb] at ey; cases ey
  | some o =>
    obtain ⟨o1, o2, o3, o4, o5, o6, o7, o8, o9⟩ := o
    rw [hb, q_b9_s] at ey
    cases ey
    exact ⟨_, rfl, hy⟩
theorem r_readsUpTo (g : MOK (l_R sv) (l_C sv) (z_pr (l_R sv)) (z_pr (l_C sv)) cr cq dp wd za) (h : l_tM t tb f) {e : Nat} (he : e ≤ t) (ht : t ≤ 200) (hN : 1000 ≤ N) {i : Nat} (hi : i ≤ e) (nu lv ky ea : Int32) : Ok (f_M_readsUpTo N cr cq dp wd za f (nI i) 0 nu lv ky ea (nI e)) (fun y => z_rdM (nm_rd (l_R sv) (l_C sv) tb e i) y.1 y.2.2.1 y.2.2.2.2.1 y.2.2.2.2.2.1 ∧ ((nm_rd (l_R sv) (l_C sv) tb e i).1 ≠ 0 → y.2.2.2.2.2.2 = z_er e (nm_rd (l_R sv) (l_C sv) tb e i).1 (nm_rd (l_R sv) (l_C sv) tb e i).2.1)) := by
  obtain ⟨q1, q2, q3⟩ := nm_rd_in g.2.2 (tb := tb) (e := e) (i := i) hi
  unfold f_M_readsUpTo
  refine Ok.b6 (r_readsName g h he ht hN hi nu lv ky) (fun v1 v2 v3 v4 v5 v6 hx => ?_)
  rw [z_j1]
  dsimp only
  rw [z_j0]
  rcases hx with ⟨hF, x1, x2, x3, x4⟩ | ⟨hF, x1, x2⟩
  · dsimp only at x1 x2 x3 x4
    subst x1; subst x2; subst x3; subst x4
    rw [if_neg (by decide)]
    exact Ok.bo (Or.inl rfl) (Ok.bo (Or.inr rfl) (Ok.ret ⟨Or.inl ⟨hF, rfl, rfl, rfl, rfl⟩, fun z => absurd hF z⟩))
  · dsimp only at x1 x2
    subst x1; subst x2
    rw [if_pos rfl]
    have hz : z_told (nm_rd (l_R sv) (l_C sv) tb e i).1 (nm_rd (l_R sv) (l_C sv) tb e i).2.1 = (-1000) - nI e ↔ (nm_rd (l_R sv) (l_C sv) tb e i).1 = 1 ∧ (nm_rd (l_R sv) (l_C sv) tb e i).2.1 = e := z_told_e q2 (by omega) (by omega)
    refine Ok.ite (fun c => Ok.bo (Or.inr rfl) (Ok.bo (Or.inl rfl) (Ok.ret ⟨Or.inr ⟨hF, rfl, rfl⟩, fun _ => ?_⟩))) (fun c => Ok.bo (Or.inl rfl) (Ok.bo (Or.inl rfl) (Ok.ret ⟨Or.inr ⟨hF, rfl, rfl⟩, fun _ => ?_⟩)))
    · exact (if_pos (hz.mp c)).symm
    · exact (if_neg (fun z => c (hz.mpr z))).symm
theorem r_besideFirst (g : MOK (l_R sv) (l_C sv) (z_pr (l_R sv)) (z_pr (l_C sv)) cr cq dp wd za) (hN : 1000000 ≤ N) (hl : l < 5) {k i : Nat} (hk : k < 2130 * (z_pr (l_R sv) l * z_pr (l_C sv) l) + 2) (hi : i < 4) (fb mb : Int32) : Ok (f_M_besideFirst N dp wd za (nI l) (nI k) fb mb (nI i)) (fun y => l_aneighbour sv (nI l) (nI k) (nI i) 0 y.1 ∧ z_nb fb y.2.1) := by
  have hs := g.2.2.sh hl
  obtain ⟨ro, pl, d1, d2, d3, -, -⟩ := t_spot (N := N) g (by omega) hl hk
  obtain ⟨x, e2, h4, hnb⟩ := r_lays2 (N := N) g (by omega) hl d1 d2 fb mb hi
  have hMF := l_MF_of g.2.2 hl d1 d2
  obtain ⟨m1, m2⟩ := hMF.2 i hi
  rw [← d3] at e2
  unfold f_M_besideFirst
  rw [e2, q_b2_s]
  have fin : ∀ r : Int32, r = l_vnb (l_bM sv l ro pl i) (l_bF sv l ro pl i) 0 → l_aneighbour sv (nI l) (nI k) (nI i) 0 r := fun r h => Or.inr ⟨l, k, ro, pl, i, ⟨⟨l, k, hl, rfl, rfl, hk⟩, ⟨by rw [nI_toInt (by omega)]; omega, by rw [nI_toInt (by omega)]; omega⟩, by decide⟩, ⟨hl, by omega, d1, d2, d3⟩, rfl, rfl, hi, rfl, h⟩
  unfold l_vnb at fin
  refine Ok.ite (fun c => Ok.ret ⟨fin _ ?_, hnb⟩) (fun c => Ok.ret ⟨fin _ ?_, hnb⟩)
  all_goals rw [z_eq0 (by omega)] at c
  · show (-2 : Int32) = _
    rw [if_neg (by decide), if_pos (show nI (l_bM sv l ro pl i) ≤ 0 by rw [z_le0 (show l_bM sv l ro pl i < 2 ^ 31 by unfold l_bM; omega)]; exact c)]
  · show x = _
    rw [if_neg (by decide), if_neg (show ¬ nI (l_bM sv l ro pl i) ≤ 0 by rw [z_le0 (show l_bM sv l ro pl i < 2 ^ 31 by unfold l_bM; omega)]; exact c), h4 c]
    exact (Int32.add_zero _).symm
theorem r_answersOne (g : MOK (l_R sv) (l_C sv) (z_pr (l_R sv)) (z_pr (l_C sv)) cr cq dp wd za) (h : l_tM t tb f) (hn : n ≤ t) (ht : t ≤ 200) (hN : 1000000 ≤ N) {i bl : Nat} (hi : i ≤ n) (hw : z_word tb bl < 5) (nu lv ky c0 c1 c2 c3 fb mb ea : Int32) : Ok (f_M_answersOne N cr cq dp wd za f (nI i) 0 nu lv ky c0 c1 c2 c3 fb mb ea (z_wv tb bl) (nI n)) (fun x => z_aP sv (if (nm_rd (l_R sv) (l_C sv) tb n i).1 = 0 then (0, 0, 0, z_word tb bl, (nm_rd (l_R sv) (l_C sv) tb n i).2.2.1, (nm_rd (l_R sv) (l_C sv) tb n i).2.2.2, 0, 0) else ((nm_rd (l_R sv) (l_C sv) tb n i).1, (nm_rd (l_R sv) (l_C sv) tb n i).2.1, z_er n (nm_rd (l_R sv) (l_C sv) tb n i).1 (nm_rd (l_R sv) (l_C sv) tb n i).2.1, 0, 0, 0, 0, 0)) c0 c1 c2 c3 x.1 x.2.2.2.2.2.2.1 x.2.2.2.2.2.2.2.1 x.2.2.2.2.2.2.2.2.1 x.2.2.2.2.2.2.2.2.2.1 ∧ z_nb fb x.2.2.2.2.2.2.2.2.2.2.1) := by
  obtain ⟨q1, q2, q3⟩ := nm_rd_in g.2.2 (tb := tb) (e := n) (i := i) hi
  have W0 : lg_cmp (z_wv tb bl) 15190664 = 0 ↔ z_word tb bl = 0 := z_wv_w (k := 0) (by omega)
  have W1 : lg_cmp (z_wv tb bl) 165492 = 0 ↔ z_word tb bl = 1 := z_wv_w (k := 1) (by omega)
  have W2 : lg_cmp (z_wv tb bl) 20436616 = 0 ↔ z_word tb bl = 2 := z_wv_w (k := 2) (by omega)
  have W4 : lg_cmp (z_wv tb bl) 1130181 = 0 ↔ z_word tb bl = 4 := z_wv_w (k := 4) (by omega)
  unfold f_M_answersOne
  refine Ok.b7 (r_readsUpTo g h hn ht (by omega) hi nu lv ky ea) (fun v1 v2 v3 v4 v5 v6 v7 hx => ?_)
  obtain ⟨hx, hea⟩ := hx
  dsimp only at hx hea
  generalize nm_rd (l_R sv) (l_C sv) tb n i = S at *
  rcases hx with ⟨hF, x1, x2, x3, x4⟩ | ⟨hF, x1, x2⟩
  rotate_left
  · subst x1; subst x2
    rw [hea hF, if_neg hF]
    refine Ok.b5 (r_countedB hF q2 (by omega) c0 c1 c2 c3 _) (fun v8 v9 v10 v11 v12 hc => ?_)
    obtain ⟨hc1, hc2⟩ := hc
    dsimp only at hc1 hc2
    rw [if_pos hc1]
    exact Ok.ret ⟨⟨hc2, fun z => absurd z hF, fun _ => rfl⟩, z_nb_r fb⟩
  subst x1; subst x2; subst x3; subst x4
  obtain ⟨k1, k2⟩ := q3 hF
  rw [if_pos hF]
  refine Ok.b5 (r_countedG 0 c0 c1 c2 c3 v7) (fun v8 v9 v10 v11 v12 hc => ?_)
  obtain ⟨hc1, hc2⟩ := hc
  dsimp only at hc1 hc2
  rw [if_neg (by rw [hc1]; decide)]
  by_cases w4 : z_word tb bl = 4
  · rw [if_pos (W4.mpr w4)]
    by_cases h0 : S.2.2.1 = 0
    · rw [if_pos (show nI S.2.2.1 = 0 by rw [h0]; rfl)]
      exact Ok.ret ⟨⟨hc2 _, fun _ => Or.inl ⟨w4, h0, rfl⟩, fun z => absurd rfl z⟩, z_nb_r fb⟩
    · rw [if_neg (show ¬ nI S.2.2.1 = 0 by rw [z_eq0 (by omega)]; exact h0), z_sub1 (by omega)]
      refine Ok.b1 (r_parentOf g (by omega) k1 (t := S.2.2.1 - 1) (by omega) k2) (fun v hv => ?_)
      obtain ⟨u, hu, rfl⟩ := hv
      exact Ok.ret ⟨⟨hc2 _, fun _ => Or.inr (Or.inl ⟨w4, h0, u, hu, rfl⟩), fun z => absurd rfl z⟩, z_nb_r fb⟩
  rw [if_neg (fun z => w4 (W4.mp z))]
  refine Ok.k1 (fun v => v = nI (z_word tb bl)) (fun x => z_aP sv (0, 0, 0, z_word tb bl, S.2.2.1, S.2.2.2, 0, 0) c0 c1 c2 c3 x.1 x.2.2.2.2.2.2.1 x.2.2.2.2.2.2.2.1 x.2.2.2.2.2.2.2.2.1 x.2.2.2.2.2.2.2.2.2.1 ∧ z_nb fb x.2.2.2.2.2.2.2.2.2.2.1) (fun v13 h13 => ?_) (fun K hK => ?_)
  · subst h13
    refine Ok.b3 (r_besideFirst g hN k1 k2 (by omega) fb mb) (fun v14 v15 v16 h14 => ?_)
    obtain ⟨h14, hnb⟩ := h14
    dsimp only at h14 hnb
    exact Ok.ret ⟨⟨hc2 _, fun _ => Or.inr (Or.inr (Or.inl ⟨show z_word tb bl < 4 by omega, h14⟩)), fun z => absurd rfl z⟩, hnb⟩
  · refine Ok.ite (fun c => hK _ ?_) (fun c0' => Ok.ite (fun c => hK _ ?_) (fun c1' => Ok.ite (fun c => hK _ ?_) (fun c2' => hK _ ?_)))
    · rw [W0.mp c]; rfl
    · rw [W1.mp c]; rfl
    · rw [W2.mp c]; rfl
    · have a0 : ¬ z_word tb bl = 0 := fun z => c0' (W0.mpr z)
      have a1 : ¬ z_word tb bl = 1 := fun z => c1' (W1.mpr z)
      have a2 : ¬ z_word tb bl = 2 := fun z => c2' (W2.mpr z)
      have a3 : z_word tb bl = 3 := by omega
      rw [a3]; rfl
theorem r_answersTwo (g : MOK (l_R sv) (l_C sv) (z_pr (l_R sv)) (z_pr (l_C sv)) cr cq dp wd za) (h : l_tM t tb f) (hn : n ≤ t) (ht : t ≤ 200) (hN : 1000000 ≤ N) {i w : Nat} (hi : i ≤ n) (hw : w = 5 ∨ w = 6) (nu lv ky c0 c1 c2 c3 : Int32) (bt bo : Int64) (ed : Nat → Int64) (fb mb : Int32) (di qu : Nat → Int32) (qd x1 x2 x3 x4 x5 ea z : Int32) (hz : z = if w = 5 then 1 else 0) : Ok (f_M_answersTwo N cr cq dp wd za f (nI i) 0 nu lv ky c0 c1 c2 c3 bt bo ed fb mb di qu qd x1 x2 x3 x4 x5 ea z (nI n)) (fun x => z_aP sv ((fun b2 => (fun S : Nat × Nat × Nat × Nat => if S.1 = 0 then
        (if b2 = n then (1, n, 1, 0, 0, 0, 0, 0)
         else (fun S2 : Nat × Nat × Nat × Nat => if S2.1 = 0 then (0, 0, 0, w, S.2.2.1, S.2.2.2, S2.2.2.1, S2.2.2.2) else (S2.1, S2.2.1, z_er n S2.1 S2.2.1, 0, 0, 0, 0, 0)) (nm_rd (l_R sv) (l_C sv) tb n (b2 + 1)))
      else (S.1, S.2.1, z_er b2 S.1 S.2.1, 0, 0, 0, 0, 0)) (nm_rd (l_R sv) (l_C sv) tb b2 i)) (z_bl tb (n - i) i)) c0 c1 c2 c3 x.1 x.2.2.2.2.2.2.1 x.2.2.2.2.2.2.2.1 x.2.2.2.2.2.2.2.2.1 x.2.2.2.2.2.2.2.2.2.1 ∧ z_nb fb x.2.2.2.2.2.2.2.2.2.2.2.2.2.1) := by
  have hb := z_bl_in tb (n - i) i
  unfold f_M_answersTwo
  rw [r_blankFromM h hn ht (by omega) hi, q_b1_s]
  dsimp only
  generalize z_bl tb (n - i) i = b2 at *
  refine Ok.b7 (r_readsUpTo g h (e := b2) (by omega) ht (by omega) (by omega) nu lv ky ea) (fun v2 v3 v4 v5 v6 v7 v8 hx => ?_)
  obtain ⟨hx, hea⟩ := hx
  dsimp only at hx hea
  obtain ⟨q1, q2, q3⟩ := nm_rd_in g.2.2 (tb := tb) (e := b2) (i := i) (by omega)
  generalize nm_rd (l_R sv) (l_C sv) tb b2 i = S at *
  have hd2 : b2 < n → (nm_rd (l_R sv) (l_C sv) tb n (b2 + 1)).2.1 ≤ n ∧ (nm_rd (l_R sv) (l_C sv) tb n (b2 + 1)).1 ≤ 3 ∧ ((nm_rd (l_R sv) (l_C sv) tb n (b2 + 1)).1 = 0 → (nm_rd (l_R sv) (l_C sv) tb n (b2 + 1)).2.2.1 < 5 ∧ (nm_rd (l_R sv) (l_C sv) tb n (b2 + 1)).2.2.2 < 2130 * (z_pr (l_R sv) (nm_rd (l_R sv) (l_C sv) tb n (b2 + 1)).2.2.1 * z_pr (l_C sv) (nm_rd (l_R sv) (l_C sv) tb n (b2 + 1)).2.2.1) + 2) := fun hh => nm_rd_in g.2.2 (tb := tb) (e := n) (i := b2 + 1) (by omega)
  have hrd2 : b2 < n → ∀ nu lv ky ea : Int32, Ok (f_M_readsUpTo N cr cq dp wd za f (nI (b2 + 1)) 0 nu lv ky ea (nI n)) (fun y => z_rdM (nm_rd (l_R sv) (l_C sv) tb n (b2 + 1)) y.1 y.2.2.1 y.2.2.2.2.1 y.2.2.2.2.2.1 ∧ ((nm_rd (l_R sv) (l_C sv) tb n (b2 + 1)).1 ≠ 0 → y.2.2.2.2.2.2 = z_er n (nm_rd (l_R sv) (l_C sv) tb n (b2 + 1)).1 (nm_rd (l_R sv) (l_C sv) tb n (b2 + 1)).2.1)) := fun hh nu lv ky ea => r_readsUpTo g h hn ht (by omega) (by omega) nu lv ky ea
  generalize nm_rd (l_R sv) (l_C sv) tb n (b2 + 1) = S2 at *
  generalize hQ : (if S.1 = 0 then (if b2 = n then (1, n, 1, 0, 0, 0, 0, 0) else if S2.1 = 0 then (0, 0, 0, w, S.2.2.1, S.2.2.2, S2.2.2.1, S2.2.2.2) else (S2.1, S2.2.1, z_er n S2.1 S2.2.1, 0, 0, 0, 0, 0)) else (S.1, S.2.1, z_er b2 S.1 S.2.1, 0, 0, 0, 0, 0) : z_Q) = Q
  have hQ3 : Q.1 ≤ 3 ∧ Q.2.1 ≤ 200 := by
    rw [← hQ]
    by_cases d1 : S.1 = 0
    · rw [if_pos d1]
      by_cases d2 : b2 = n
      · rw [if_pos d2]; exact ⟨(show (1 : Nat) ≤ 3 by omega), (show n ≤ 200 by omega)⟩
      · rw [if_neg d2]
        have := hd2 (by omega)
        by_cases d3 : S2.1 = 0
        · rw [if_pos d3]; exact ⟨Nat.zero_le 3, Nat.zero_le 200⟩
        · rw [if_neg d3]; exact ⟨this.2.1, (show S2.2.1 ≤ 200 by omega)⟩
    · rw [if_neg d1]; exact ⟨q2, (show S.2.1 ≤ 200 by omega)⟩
  refine Ok.k3 (fun v9 v10 v11 => (Q.1 ≠ 0 ∧ v9 = 0 ∧ v10 = z_told Q.1 Q.2.1 ∧ v11 = Q.2.2.1) ∨ (v9 = 1 ∧ v10 = 0 ∧ S.1 = 0 ∧ b2 < n ∧ v6 = nI S.2.2.1 ∧ v7 = nI S.2.2.2)) (fun x => z_aP sv Q c0 c1 c2 c3 x.1 x.2.2.2.2.2.2.1 x.2.2.2.2.2.2.2.1 x.2.2.2.2.2.2.2.2.1 x.2.2.2.2.2.2.2.2.2.1 ∧ z_nb fb x.2.2.2.2.2.2.2.2.2.2.2.2.2.1) (fun v9 v10 v11 h9 => ?_) (fun K hK => ?_)
  rotate_left
  · rcases hx with ⟨hF, y1, y2, y3, y4⟩ | ⟨hF, y1, y2⟩
    · rw [if_neg (show ¬ v2 = 0 by rw [y1]; decide)]
      by_cases d2 : b2 = n
      · rw [if_pos (show nI b2 = nI n by rw [d2]), y2, z_i 1, r_wrong, q_b2_s]
        refine hK _ _ _ (Or.inl ?_)
        rw [← hQ, if_pos hF, if_pos d2]
        exact ⟨show ¬ (1 : Nat) = 0 by omega, rfl, rfl, rfl⟩
      · rw [if_neg (show ¬ nI b2 = nI n by rw [nI_eq (by omega) (by omega)]; exact d2)]
        exact hK _ _ _ (Or.inr ⟨y1, y2, hF, by omega, y3, y4⟩)
    · rw [if_pos y1]
      refine hK _ _ _ (Or.inl ?_)
      rw [← hQ, if_neg hF]
      exact ⟨hF, y1, y2, hea hF⟩
  rw [nI_1, z_nm]
  refine Ok.k7 (fun v13 _ v15 _ v17 v18 v19 => (Q.1 ≠ 0 ∧ v13 = 0 ∧ v15 = z_told Q.1 Q.2.1 ∧ v19 = Q.2.2.1) ∨ (v13 = 1 ∧ S.1 = 0 ∧ b2 < n ∧ S2.1 = 0 ∧ v6 = nI S.2.2.1 ∧ v7 = nI S.2.2.2 ∧ v17 = nI S2.2.2.1 ∧ v18 = nI S2.2.2.2)) (fun x => z_aP sv Q c0 c1 c2 c3 x.1 x.2.2.2.2.2.2.1 x.2.2.2.2.2.2.2.1 x.2.2.2.2.2.2.2.2.1 x.2.2.2.2.2.2.2.2.2.1 ∧ z_nb fb x.2.2.2.2.2.2.2.2.2.2.2.2.2.1) (fun v13 v14 v15 v16 v17 v18 v19 h13 => ?_) (fun K hK => ?_)
  · rcases h13 with ⟨hF, y1, y2, y3⟩ | ⟨y1, s1, s2, s3, y2, y3, y4, y5⟩
    · subst y1; subst y2; subst y3
      refine Ok.b5 (r_countedB hF hQ3.1 hQ3.2 c0 c1 c2 c3 _) (fun v20 v21 v22 v23 v24 hc => ?_)
      obtain ⟨hc1, hc2⟩ := hc
      dsimp only at hc1 hc2
      rw [if_pos hc1]
      exact Ok.ret ⟨⟨hc2, fun u => absurd u hF, fun _ => rfl⟩, z_nb_r fb⟩
    · subst y1; subst y2; subst y3; subst y4; subst y5
      have hQe : Q = (0, 0, 0, w, S.2.2.1, S.2.2.2, S2.2.2.1, S2.2.2.2) := by rw [← hQ, if_pos s1, if_neg (by omega), if_pos s3]
      obtain ⟨k1, k2⟩ := q3 s1
      obtain ⟨k3, k4⟩ := (hd2 s2).2.2 s3
      refine Ok.b5 (r_countedG v15 c0 c1 c2 c3 v19) (fun v20 v21 v22 v23 v24 hc => ?_)
      obtain ⟨hc1, hc2⟩ := hc
      dsimp only at hc1 hc2
      rw [if_neg (show ¬ v20 = 0 by rw [hc1]; decide)]
      have fin : ∀ r, l_aR sv (0, 0, 0, w, S.2.2.1, S.2.2.2, S2.2.2.1, S2.2.2.2) r → z_aP sv Q c0 c1 c2 c3 r v21 v22 v23 v24 := by
        intro r hr
        rw [hQe]
        exact ⟨hc2 _, fun _ => hr, fun u => absurd rfl u⟩
      by_cases hll : S.2.2.1 = S2.2.2.1
      · rw [if_pos (show nI S.2.2.1 = nI S2.2.2.1 by rw [hll])]
        rw [← hll] at k4
        rcases hw with hw | hw
        · rw [if_neg (show ¬ z = 0 by rw [hz, if_pos hw]; decide)]
          refine Ok.b6 (r_stepsOf g hN k1 k2 k4 fb mb di qu qd) (fun _ _ _ _ _ _ hs => Ok.ret ⟨fin _ (Or.inr (Or.inr (Or.inr (Or.inr (Or.inl ⟨hw, hll, ?_⟩))))), hs.2⟩)
          exact l_rl2Y trivial ⟨k1, rfl, rfl, rfl, k2, k4⟩ hs.1
        · rw [if_pos (show z = 0 by rw [hz, if_neg (by omega)])]
          exact Ok.b9 (r_betweenOf g hN bt bo ed x1 x2 x3 x4 x5 k1 k2 k4) (fun _ _ _ _ _ _ _ _ _ hs => Ok.ret ⟨fin _ (Or.inr (Or.inr (Or.inr (Or.inr (Or.inr ⟨hw, hll, hs⟩))))), z_nb_r fb⟩)
      · rw [if_neg (show ¬ nI S.2.2.1 = nI S2.2.2.1 by rw [nI_eq (by omega) (by omega)]; exact hll)]
        exact Ok.ret ⟨fin _ (Or.inr (Or.inr (Or.inr (Or.inl ⟨show 5 ≤ w by omega, hll, rfl⟩)))), z_nb_r fb⟩
  · refine Ok.k6 (fun _ v41 _ _ _ v45 => Q.1 ≠ 0 ∧ v41 = z_told Q.1 Q.2.1 ∧ v45 = Q.2.2.1) (fun x => z_aP sv Q c0 c1 c2 c3 x.1 x.2.2.2.2.2.2.1 x.2.2.2.2.2.2.2.1 x.2.2.2.2.2.2.2.2.1 x.2.2.2.2.2.2.2.2.2.1 ∧ z_nb fb x.2.2.2.2.2.2.2.2.2.2.2.2.2.1) (fun v40 v41 v42 v43 v44 v45 h40 => hK _ _ _ _ _ _ _ (Or.inl ⟨h40.1, rfl, h40.2.1, h40.2.2⟩)) (fun K2 hK2 => ?_)
    rcases h9 with ⟨hF, y1, y2, y3⟩ | ⟨y1, y2, s1, s2, y3, y4⟩
    · rw [if_pos y1]
      exact hK2 _ _ _ _ _ _ ⟨hF, y2, y3⟩
    · subst y2
      rw [if_neg (show ¬ v9 = 0 by rw [y1]; decide)]
      refine Ok.b7 (hrd2 s2 _ _ _ _) (fun v46 v47 v48 v49 v50 v51 v52 h46 => ?_)
      obtain ⟨h46, h52⟩ := h46
      dsimp only at h46 h52
      rcases h46 with ⟨hF2, u1, u2, u3, u4⟩ | ⟨hF2, u1, u2⟩
      · rw [if_neg (show ¬ v46 = 0 by rw [u1]; decide)]
        exact hK _ _ _ _ _ _ _ (Or.inr ⟨rfl, s1, s2, hF2, y3, y4, u3, u4⟩)
      · rw [if_pos u1]
        refine hK2 _ _ _ _ _ _ ?_
        rw [← hQ, if_pos s1, if_neg (by omega), if_neg hF2]
        exact ⟨hF2, u2, h52 hF2⟩
theorem r_m_ask (g : MOK (l_R sv) (l_C sv) (z_pr (l_R sv)) (z_pr (l_C sv)) cr cq dp wd za) (hN : 1000000 ≤ N) (ht : t ≤ 200) (htb : l_tM t tb f) (pa fa nu lv ky c0 c1 c2 c3 : Int32) (bt bo : Int64) (ed : Nat → Int64) (fb mb : Int32) (di qu : Nat → Int32) (qd x1 x2 x3 x4 x5 ea p : Int32) : Ok (f_M_ask N cr cq dp wd za f (nI t) pa fa nu lv ky c0 c1 c2 c3 bt bo ed fb mb di qu qd x1 x2 x3 x4 x5 ea p) (fun x => z_askA sv t tb p c0 c1 c2 c3 x.1 x.2.1 x.2.2.2.2.2.2.2.1 x.2.2.2.2.2.2.2.2.1 x.2.2.2.2.2.2.2.2.2.1 x.2.2.2.2.2.2.2.2.2.2.1 ∧ z_nb fb x.2.2.2.2.2.2.2.2.2.2.2.2.2.2.1) := by
  unfold f_M_ask
  refine Ok.b1 (t_in _ _ _) (fun v1 h1 => ?_)
  rw [z_toL, show (1 : Int64).toInt = 1 from rfl, show (100 : Int64).toInt = 100 from rfl] at h1
  refine Ok.ite (fun n1 => Ok.ret ⟨Or.inl ⟨fun z => z_if0 h1 n1 ⟨z.1, z.2.1⟩, rfl, rfl, rfl, rfl, rfl, rfl⟩, z_nb_r fb⟩) (fun n1 => Ok.ite (fun h3 => ?_) (fun h3 => ?_))
  rotate_left
  · exact Ok.ret ⟨Or.inl ⟨fun z => h3 (z_le.mpr (by rw [nI_toInt (by omega)]; exact z.2.2)), rfl, rfl, rfl, rfl, rfl, rfl⟩, z_nb_r fb⟩
  have hin := z_if1 h1 n1
  have h4 := z_le.mp h3
  rw [nI_toInt (by omega)] at h4
  have hc : z_txc 100 p t := ⟨hin.1, hin.2, h4⟩
  obtain ⟨n, j1, rfl, j3⟩ := z_nat (r := p) (by omega)
  have hjt : (nI n).toInt.toNat = n := by rw [j3]; rfl
  have hn : n ≤ t := by omega
  refine Ok.weak (Q := fun x => x.2.1 = 0 ∧ z_aP sv (nq (l_R sv) (l_C sv) tb n) c0 c1 c2 c3 x.1 x.2.2.2.2.2.2.2.1 x.2.2.2.2.2.2.2.2.1 x.2.2.2.2.2.2.2.2.2.1 x.2.2.2.2.2.2.2.2.2.2.1 ∧ z_nb fb x.2.2.2.2.2.2.2.2.2.2.2.2.2.2.1) ?_ (fun x hx => ⟨Or.inr ⟨hc, hx.1, by rw [hjt]; exact hx.2.1⟩, hx.2.2⟩)
  have hbf : f_M_blankFrom N f 0 (nI n) = some (nI (z_bl tb n 0)) := by
    have := r_blankFromM (N := N) htb hn ht (by omega) (k := 0) (by omega)
    rw [Nat.sub_zero] at this
    exact this
  have hb := z_bl_in tb n 0
  rw [hbf, q_b1_s]
  have hq : ∀ c : z_bl tb n 0 = n, nq (l_R sv) (l_C sv) tb n = (1, n, 1, 0, 0, 0, 0, 0) := fun c => by unfold nq; rw [if_pos c]
  have hq7 : ∀ (_ : ¬ z_bl tb n 0 = n) (_ : z_word tb (z_bl tb n 0) = 7), nq (l_R sv) (l_C sv) tb n = (1, 0, 0, 0, 0, 0, 0, 0) := fun c c2 => by unfold nq; rw [if_neg c, if_pos c2]
  have hq5 : ∀ (_ : ¬ z_bl tb n 0 = n) (_ : z_word tb (z_bl tb n 0) < 5), nq (l_R sv) (l_C sv) tb n = (if (nm_rd (l_R sv) (l_C sv) tb n (z_bl tb n 0 + 1)).1 = 0 then (0, 0, 0, z_word tb (z_bl tb n 0), (nm_rd (l_R sv) (l_C sv) tb n (z_bl tb n 0 + 1)).2.2.1, (nm_rd (l_R sv) (l_C sv) tb n (z_bl tb n 0 + 1)).2.2.2, 0, 0) else ((nm_rd (l_R sv) (l_C sv) tb n (z_bl tb n 0 + 1)).1, (nm_rd (l_R sv) (l_C sv) tb n (z_bl tb n 0 + 1)).2.1, z_er n (nm_rd (l_R sv) (l_C sv) tb n (z_bl tb n 0 + 1)).1 (nm_rd (l_R sv) (l_C sv) tb n (z_bl tb n 0 + 1)).2.1, 0, 0, 0, 0, 0)) := fun c c2 => by unfold nq; rw [if_neg c, if_neg (by omega), if_pos c2]
  have hq6 : ∀ (_ : ¬ z_bl tb n 0 = n) (_ : ¬ z_word tb (z_bl tb n 0) = 7) (_ : ¬ z_word tb (z_bl tb n 0) < 5), nq (l_R sv) (l_C sv) tb n = ((fun b2 => (fun S : Nat × Nat × Nat × Nat => if S.1 = 0 then
        (if b2 = n then (1, n, 1, 0, 0, 0, 0, 0)
         else (fun S2 : Nat × Nat × Nat × Nat => if S2.1 = 0 then (0, 0, 0, z_word tb (z_bl tb n 0), S.2.2.1, S.2.2.2, S2.2.2.1, S2.2.2.2) else (S2.1, S2.2.1, z_er n S2.1 S2.2.1, 0, 0, 0, 0, 0)) (nm_rd (l_R sv) (l_C sv) tb n (b2 + 1)))
      else (S.1, S.2.1, z_er b2 S.1 S.2.1, 0, 0, 0, 0, 0)) (nm_rd (l_R sv) (l_C sv) tb b2 (z_bl tb n 0 + 1))) (z_bl tb (n - (z_bl tb n 0 + 1)) (z_bl tb n 0 + 1))) := fun c c2 c3 => by unfold nq; rw [if_neg c, if_neg c2, if_neg c3]
  generalize nq (l_R sv) (l_C sv) tb n = Q at *
  generalize hbl : z_bl tb n 0 = bl at *
  obtain ⟨w1, w2, w3⟩ := z_word_in tb bl
  have W0 : lg_cmp (z_wv tb bl) 15190664 = 0 ↔ z_word tb bl = 0 := z_wv_w (k := 0) (by omega)
  have W1 : lg_cmp (z_wv tb bl) 165492 = 0 ↔ z_word tb bl = 1 := z_wv_w (k := 1) (by omega)
  have W2 : lg_cmp (z_wv tb bl) 20436616 = 0 ↔ z_word tb bl = 2 := z_wv_w (k := 2) (by omega)
  have W3 : lg_cmp (z_wv tb bl) 759412 = 0 ↔ z_word tb bl = 3 := z_wv_w (k := 3) (by omega)
  have W4 : lg_cmp (z_wv tb bl) 1130181 = 0 ↔ z_word tb bl = 4 := z_wv_w (k := 4) (by omega)
  have W5 : lg_cmp (z_wv tb bl) 20583955 = 0 ↔ z_word tb bl = 5 := z_wv_w (k := 5) (by omega)
  have W6 : lg_cmp (z_wv tb bl) 2336986286 = 0 ↔ z_word tb bl = 6 := z_wv_w (k := 6) (by omega)
  refine Ok.k2 (fun v3 v4 => (bl = n ∧ v3 = 0 ∧ v4 = z_told 1 n) ∨ (bl < n ∧ v3 = 1 ∧ v4 = 0)) (fun x => x.2.1 = 0 ∧ z_aP sv Q c0 c1 c2 c3 x.1 x.2.2.2.2.2.2.2.1 x.2.2.2.2.2.2.2.2.1 x.2.2.2.2.2.2.2.2.2.1 x.2.2.2.2.2.2.2.2.2.2.1 ∧ z_nb fb x.2.2.2.2.2.2.2.2.2.2.2.2.2.2.1) (fun v3 v4 h34 => ?_) (fun K hK => ?_)
  rotate_left
  · refine Ok.k1 (fun v59 => bl < n ∧ v59 = 0) (fun x => x.2.1 = 0 ∧ z_aP sv Q c0 c1 c2 c3 x.1 x.2.2.2.2.2.2.2.1 x.2.2.2.2.2.2.2.2.1 x.2.2.2.2.2.2.2.2.2.1 x.2.2.2.2.2.2.2.2.2.2.1 ∧ z_nb fb x.2.2.2.2.2.2.2.2.2.2.2.2.2.2.1) (fun v59 h59 => hK _ _ (Or.inr ⟨h59.1, rfl, h59.2⟩)) (fun K2 hK2 => ?_)
    by_cases c : bl < n
    · rw [if_pos (by rw [nI_ltI (by omega) (by omega)]; exact c)]
      exact hK2 _ ⟨c, rfl⟩
    · rw [if_neg (by rw [nI_ltI (by omega) (by omega)]; exact c), z_i 1, r_wrong, q_b2_s, if_pos rfl]
      exact hK _ _ (Or.inl ⟨by omega, rfl, rfl⟩)
  rcases h34 with ⟨e1, rfl, rfl⟩ | ⟨e1, rfl, rfl⟩
  · rw [if_pos rfl, hq e1]
    refine Ok.b5 (r_countedB (F := 1) (P := n) (by omega) (by omega) (by omega) c0 c1 c2 c3 1) (fun _ _ _ _ _ hc => Ok.ret ⟨rfl, ⟨hc.2, fun u => absurd u (show ¬ (1 : Nat) = 0 by omega), fun _ => rfl⟩, z_nb_r fb⟩)
  have hbn : ¬ bl = n := by omega
  rw [if_neg (by decide), r_wordToM htb (by omega) ht (by omega), q_b1_s]
  refine Ok.k1 (fun v6 => v6 = if 5 ≤ z_word tb bl ∧ z_word tb bl < 7 then 1 else 0) (fun x => x.2.1 = 0 ∧ z_aP sv Q c0 c1 c2 c3 x.1 x.2.2.2.2.2.2.2.1 x.2.2.2.2.2.2.2.2.1 x.2.2.2.2.2.2.2.2.2.1 x.2.2.2.2.2.2.2.2.2.2.1 ∧ z_nb fb x.2.2.2.2.2.2.2.2.2.2.2.2.2.2.1) (fun v6 h6 => ?_) (fun K hK => ?_)
  rotate_left
  · rw [z_j0]
    refine Ok.ite (fun c => hK _ ?_) (fun c5 => Ok.ite (fun c => hK _ ?_) (fun c6 => hK _ ?_))
    · have := W5.mp c
      rw [if_pos (by omega)]
    · have := W6.mp c
      rw [if_pos (by omega)]
    · have a5 : ¬ z_word tb bl = 5 := fun u => c5 (W5.mpr u)
      have a6 : ¬ z_word tb bl = 6 := fun u => c6 (W6.mpr u)
      rw [if_neg (by omega)]
  refine Ok.k1 (fun v7 => v7 = if z_word tb bl < 5 then 1 else 0) (fun x => x.2.1 = 0 ∧ z_aP sv Q c0 c1 c2 c3 x.1 x.2.2.2.2.2.2.2.1 x.2.2.2.2.2.2.2.2.1 x.2.2.2.2.2.2.2.2.2.1 x.2.2.2.2.2.2.2.2.2.2.1 ∧ z_nb fb x.2.2.2.2.2.2.2.2.2.2.2.2.2.2.1) (fun v7 h7 => ?_) (fun K hK => ?_)
  rotate_left
  · rw [z_j0]
    refine Ok.ite (fun c => hK _ ?_) (fun d0 => Ok.ite (fun c => hK _ ?_) (fun d1 => Ok.ite (fun c => hK _ ?_) (fun d2 => Ok.ite (fun c => hK _ ?_) (fun d3 => Ok.ite (fun c => hK _ ?_) (fun d4 => hK _ ?_)))))
    · have := W0.mp c
      rw [if_pos (by omega)]
    · have := W1.mp c
      rw [if_pos (by omega)]
    · have := W2.mp c
      rw [if_pos (by omega)]
    · have := W3.mp c
      rw [if_pos (by omega)]
    · have := W4.mp c
      rw [if_pos (by omega)]
    · have a0 : ¬ z_word tb bl = 0 := fun u => d0 (W0.mpr u)
      have a1 : ¬ z_word tb bl = 1 := fun u => d1 (W1.mpr u)
      have a2 : ¬ z_word tb bl = 2 := fun u => d2 (W2.mpr u)
      have a3 : ¬ z_word tb bl = 3 := fun u => d3 (W3.mpr u)
      have a4 : ¬ z_word tb bl = 4 := fun u => d4 (W4.mpr u)
      rw [if_neg (by omega)]
  by_cases c7 : z_word tb bl = 7
  · rw [if_neg (by omega)] at h6 h7
    rw [z_j0, if_pos h6, if_pos h7, show (0 : Int32) = nI 0 from rfl, z_i 1, show f_M_wrong (nI 0) (nI 1) (nI 0) = some (0, z_told 1 0) from r_wrong 1 0, q_b2_s, hq7 hbn c7]
    exact Ok.b5 (r_countedB (F := 1) (P := 0) (by omega) (by omega) (by omega) c0 c1 c2 c3 0) (fun _ _ _ _ _ hc => Ok.ret ⟨rfl, ⟨hc.2, fun u => absurd u (show ¬ (1 : Nat) = 0 by omega), fun _ => rfl⟩, z_nb_r fb⟩)
  by_cases c5 : z_word tb bl < 5
  · rw [if_neg (by omega)] at h6
    rw [if_pos c5] at h7
    refine Ok.k0 (fun x => x.2.1 = 0 ∧ z_aP sv Q c0 c1 c2 c3 x.1 x.2.2.2.2.2.2.2.1 x.2.2.2.2.2.2.2.2.1 x.2.2.2.2.2.2.2.2.2.1 x.2.2.2.2.2.2.2.2.2.2.1 ∧ z_nb fb x.2.2.2.2.2.2.2.2.2.2.2.2.2.2.1) ?_ (fun K hK => ?_)
    rotate_left
    · rw [if_pos h6, if_neg (by rw [h7]; decide)]; exact hK
    rw [nI_1, z_nm, if_pos h6, hq5 hbn c5]
    exact Ok.b13 (r_answersOne g htb hn ht hN (i := bl + 1) (by omega) c5 nu lv ky c0 c1 c2 c3 fb mb 0) (fun _ _ _ _ _ _ _ _ _ _ _ _ _ hs => Ok.ret ⟨rfl, hs.1, hs.2⟩)
  · rw [if_pos (by omega)] at h6
    refine Ok.k0 (fun x => x.2.1 = 0 ∧ z_aP sv Q c0 c1 c2 c3 x.1 x.2.2.2.2.2.2.2.1 x.2.2.2.2.2.2.2.2.1 x.2.2.2.2.2.2.2.2.2.1 x.2.2.2.2.2.2.2.2.2.2.1 ∧ z_nb fb x.2.2.2.2.2.2.2.2.2.2.2.2.2.2.1) ?_ (fun K hK => ?_)
    rotate_left
    · rw [if_neg (by rw [h6]; decide)]; exact hK
    rw [nI_1, z_nm, if_neg (by rw [h6]; decide), hq6 hbn c7 c5]
    refine Ok.k1 (fun v22 => v22 = if z_word tb bl = 5 then 1 else 0) _ (fun v22 h22 => ?_) (fun K hK => Ok.ite (fun c => hK _ ?_) (fun c => hK _ ?_))
    · exact Ok.b24 (r_answersTwo g htb hn ht hN (i := bl + 1) (w := z_word tb bl) (by omega) (by omega) nu lv ky c0 c1 c2 c3 bt bo ed fb mb di qu qd x1 x2 x3 x4 x5 0 v22 h22) (fun _ _ _ _ _ _ _ _ _ _ _ _ _ _ _ _ _ _ _ _ _ _ _ _ hs => Ok.ret ⟨rfl, hs.1, hs.2⟩)
    · rw [if_pos (W5.mp c)]
    · rw [if_neg (fun u => c (W5.mpr u))]
end S20D
