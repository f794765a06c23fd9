/-! the reference: what is asked first; steps, way, reach, farthest -/
section MX
variable {R C H V : Nat → Nat} {cr cq dp wd za : Nat → Int32} {N l tot : Nat}
theorem z_toL (x : Int32) : x.toInt64.toInt = x.toInt := Int32.toInt_toInt64 x
theorem t_isLevel (p : Int32) : Ok (f_M_isLevel p) (fun x => x = (if 0 ≤ p.toInt ∧ p.toInt ≤ 4 then 1 else 0)) := by
  unfold f_M_isLevel
  rw [m_in, q_b1_s, z_toL, show (0 : Int64).toInt = 0 from rfl, show (4 : Int64).toInt = 4 from rfl]
  refine Ok.bo ?_ (Ok.ret rfl)
  split
  · exact Or.inr rfl
  · exact Or.inl rfl
theorem t_level {p : Int32} (h : 0 ≤ p.toInt ∧ p.toInt ≤ 4) : ∃ l, l < 5 ∧ p = nI l := by
  obtain ⟨j, h1, h2, h3⟩ := z_nat h.1
  exact ⟨j, by omega, h2⟩
theorem t_isKey (g : MOK R C H V cr cq dp wd za) (p q : Int32) : Ok (f_M_isKey dp wd za p q) (fun x => x ≠ 0 → z_hs H V p q) := by
  unfold f_M_isKey
  refine Ok.b1 (t_isLevel p) (fun v1 h1 => Ok.ite (fun _ => Ok.ret (fun z => absurd rfl z)) (fun n1 => ?_))
  obtain ⟨l, hl, rfl⟩ := t_level (z_if1 h1 n1)
  have hs := g.2.2.sh hl
  rw [m_sheets g hl, q_b1_s, m_in, q_b1_s, z_toL, z_sub1 (by omega), z_toL, nI_toInt (by omega), show (0 : Int64).toInt = 0 from rfl]
  refine Ok.ite (fun _ => Ok.ret (fun z => absurd rfl z)) (fun n2 => Ok.ret (fun _ => ?_))
  by_cases hc : 0 ≤ q.toInt ∧ q.toInt ≤ ((2130 * (H l * V l) + 2 - 1 : Nat) : Int)
  · obtain ⟨j, j1, j2, j3⟩ := z_nat hc.1
    exact ⟨l, j, hl, rfl, j2, by omega⟩
  · rw [if_neg hc] at n2; exact absurd rfl n2
theorem t_isGreat (g : MOK R C H V cr cq dp wd za) (hl : l < 5) : f_M_isGreat dp wd za (nI l) = some (if 2130 * (H l * V l) + 2 ≤ 20000 then 0 else 1) := by
  have hs := g.2.2.sh hl
  unfold f_M_isGreat
  rw [m_sheets g hl, q_b1_s]
  by_cases h : 2130 * (H l * V l) + 2 ≤ 20000
  · rw [if_pos (by rw [z_i 20000, nI_leI (by omega) (by omega)]; exact h), if_pos h]
  · rw [if_neg (by rw [z_i 20000, nI_leI (by omega) (by omega)]; exact h), if_neg h]
theorem t_stepsOf (g : MOK R C H V cr cq dp wd za) (hN : 1000000 ≤ N) (hl : l < 5) {k k2 : Nat} (hk : k < 2130 * (H l * V l) + 2) (hk2 : k2 < 2130 * (H l * V l) + 2) (a b : Int32) (f qu : Nat → Int32) (m : Int32) : Ok (f_M_stepsOf N dp wd za a b f qu m (nI l) (nI k) (nI k2)) (fun _ => True) := by
  unfold f_M_stepsOf
  rw [t_isGreat g hl, q_b1_s]
  by_cases h : 2130 * (H l * V l) + 2 ≤ 20000
  · rw [if_pos h, if_pos rfl]
    exact Ok.b5 (s_laysSteps g hN hl rfl h hk2 a b f qu m) (fun _ _ _ _ _ _ => Ok.ain (by omega) (by decide) Ok.t)
  · rw [if_neg h, if_neg (by decide)]; exact Ok.t
theorem t_steps (g : MOK R C H V cr cq dp wd za) (hN : 1000000 ≤ N) (a b : Int32) (f qu : Nat → Int32) (m p q r : Int32) : Ok (f_M_steps N dp wd za a b f qu m p q r) (fun _ => True) := by
  unfold f_M_steps
  refine Ok.b1 (t_isKey g p q) (fun v1 h1 => Ok.ite (fun _ => Ok.t) (fun n1 => Ok.b1 (t_isKey g p r) (fun v2 h2 => Ok.ite (fun _ => Ok.t) (fun n2 => ?_))))
  obtain ⟨l, k, hl, rfl, rfl, hk⟩ := h1 n1
  obtain ⟨l2, k2, hl2, el, rfl, hk2⟩ := h2 n2
  have : l = l2 := by rw [nI_eq (by omega) (by omega)] at el; exact el
  subst this
  exact Ok.b6 (t_stepsOf g hN hl hk hk2 a b f qu m) (fun _ _ _ _ _ _ _ => Ok.t)
theorem t_way_L (g : MOK R C H V cr cq dp wd za) (hN : 1000000 ≤ N) (hl : l < 5) (ht : tot = 2130 * (H l * V l) + 2) (ht2 : tot ≤ 20000) {f qu : Nat → Int32} {e : Nat} (hb : z_bfs (z_adj (H l) (V l)) tot f qu e) {p : Nat} (hp : p ≤ tot) : ∀ n i key (a b : Int32), i ≤ p → p - i < n → key < tot → (∃ d, d < 2 ^ 31 ∧ f key = nI d ∧ p - i ≤ d) → Ok (f_M_way_L62 N f dp wd za (nI l) (nI p) n (nI key) (nI i) a b) (fun _ => True) := by
  intro n
  induction n with
  | zero => intro i key a b _ h; omega
  | succ n ih =>
    intro i key a b hi hn hk hf
    rw [f_M_way_L62]
    refine Ok.ite (fun _ => Ok.t) (fun hc => ?_)
    rw [nI_leI (by omega) (by omega)] at hc
    obtain ⟨d, d1, d2, d3⟩ := hf
    obtain ⟨d, rfl⟩ : ∃ x, d = x + 1 := ⟨d - 1, by omega⟩
    refine Ok.b3 (s_nearer g hN hl ht ht2 hb hk (d := d) (by omega) d2 a b) (fun y1 y2 y3 hy => ?_)
    obtain ⟨q, q1, q2, q3⟩ := hy
    dsimp only at q2
    subst q2
    rw [z_nm, nI_1]
    exact ih (i + 1) q _ _ (by omega) (by omega) q1 ⟨d, by omega, q3, by omega⟩
theorem t_way (g : MOK R C H V cr cq dp wd za) (hN : 1000000 ≤ N) (a b : Int32) (f qu : Nat → Int32) (m p q r i : Int32) : Ok (f_M_way N dp wd za a b f qu m p q r i) (fun _ => True) := by
  unfold f_M_way
  refine Ok.b1 (t_isKey g p q) (fun v1 h1 => Ok.ite (fun _ => Ok.t) (fun n1 => Ok.b1 (t_isKey g p r) (fun v2 h2 => Ok.ite (fun _ => Ok.t) (fun n2 => Ok.ite (fun hi => ?_) (fun _ => Ok.t)))))
  obtain ⟨l, k, hl, rfl, rfl, hk⟩ := h1 n1
  obtain ⟨l2, k2, hl2, el, rfl, hk2⟩ := h2 n2
  have : l = l2 := by rw [nI_eq (by omega) (by omega)] at el; exact el
  subst this
  rw [t_isGreat g hl, q_b1_s]
  by_cases h : 2130 * (H l * V l) + 2 ≤ 20000
  · rw [if_pos h, if_pos rfl]
    refine Ok.b5 (s_laysSteps g hN hl rfl h hk2 a b f qu m) (fun v4 v5 f6 f7 v8 hb => Ok.ain (by omega) (by decide) (Ok.ite (fun hle => Ok.nm ?_) (fun _ => Ok.t)))
    obtain ⟨e, hb⟩ := hb
    dsimp only at hb
    have h0 := z_le.mp hi
    rw [show (0 : Int32).toInt = 0 from rfl] at h0
    obtain ⟨j, j1, rfl, j3⟩ := z_nat h0
    have he := z_cnt_le f6 (2130 * (H l * V l) + 2)
    rw [hb.1] at he
    have hle' := z_le.mp hle
    rcases hb.2.2.1 k hk with z | ⟨d, d1, d2⟩
    · rw [z, show (-1 : Int32).toInt = -1 from rfl] at hle'; omega
    · rw [d2, nI_toInt (by omega), nI_toInt (by omega)] at hle'
      exact Ok.b3 (t_way_L g hN hl rfl h hb (p := j) (by omega) N 0 k v4 v5 (by omega) (by omega) hk ⟨d, by omega, d2, by omega⟩) (fun _ _ _ _ => Ok.t)
  · rw [if_neg h, if_neg (by decide)]; exact Ok.t
theorem t_reach (g : MOK R C H V cr cq dp wd za) (hN : 1000000 ≤ N) (a b : Int32) (f qu : Nat → Int32) (m p q i : Int32) : Ok (f_M_reach N dp wd za a b f qu m p q i) (fun _ => True) := by
  unfold f_M_reach
  refine Ok.b1 (t_isKey g p q) (fun v1 h1 => Ok.ite (fun _ => Ok.t) (fun n1 => Ok.ite (fun hi => ?_) (fun _ => Ok.t)))
  obtain ⟨l, k, hl, rfl, rfl, hk⟩ := h1 n1
  rw [t_isGreat g hl, q_b1_s]
  by_cases h : 2130 * (H l * V l) + 2 ≤ 20000
  · rw [if_pos h, if_pos rfl]
    refine Ok.b5 (s_laysSteps g hN hl rfl h hk a b f qu m) (fun v4 v5 f6 f7 v8 _ => Ok.nm (Ok.nm ?_))
    have L : ∀ n j (v : Int32), j ≤ 2130 * (H l * V l) + 2 → 2130 * (H l * V l) + 2 - j < n → Ok (f_M_reach_L38 f6 dp wd za (nI l) i n v (nI j)) (fun _ => True) := by
      intro n
      induction n with
      | zero => intro j v _ h; omega
      | succ n ih =>
        intro j v hj hn
        rw [f_M_reach_L38, m_sheets g hl, q_b1_s]
        refine Ok.ite (fun _ => Ok.t) (fun hc => ?_)
        rw [nI_leI (by omega) (by omega)] at hc
        have hx := fun v => ih (j + 1) v (by omega) (by omega)
        rw [← nI_1] at hx
        exact Ok.ain (by omega) (by decide) (Ok.k1 (fun _ => True) (fun _ => True) (fun v _ => Ok.nm (Ok.nm (hx _))) (fun K hK => Ok.ite (fun _ => hK _ trivial) (fun _ => hK _ trivial)))
    exact Ok.b1 (L N 0 0 (by omega) (by omega)) (fun _ _ => Ok.t)
  · rw [if_neg h, if_neg (by decide)]; exact Ok.t
theorem t_farthest (g : MOK R C H V cr cq dp wd za) (hN : 1000000 ≤ N) (a b : Int32) (f qu : Nat → Int32) (m p q i : Int32) : Ok (f_M_farthest N dp wd za a b f qu m p q i) (fun _ => True) := by
  unfold f_M_farthest
  refine Ok.b1 (t_isKey g p q) (fun v1 h1 => Ok.ite (fun _ => Ok.t) (fun n1 => ?_))
  rw [m_in, q_b1_s]
  refine Ok.ite (fun _ => Ok.t) (fun _ => ?_)
  obtain ⟨l, k, hl, rfl, rfl, hk⟩ := h1 n1
  rw [t_isGreat g hl, q_b1_s]
  by_cases h : 2130 * (H l * V l) + 2 ≤ 20000
  · rw [if_pos h, if_pos rfl]
    refine Ok.b5 (s_laysSteps g hN hl rfl h hk a b f qu m) (fun v4 v5 f6 f7 v8 _ => Ok.nm (Ok.nm ?_))
    have L : ∀ n j c, j ≤ 2130 * (H l * V l) + 2 → 2130 * (H l * V l) + 2 - j < n → c < 20000 → Ok (f_M_farthest_L44 f6 dp wd za (nI l) n (nI c) (nI j)) (fun x => ∃ c, c < 20000 ∧ x = nI c) := by
      intro n
      induction n with
      | zero => intro j c _ h; omega
      | succ n ih =>
        intro j c hj hn hc
        rw [f_M_farthest_L44, m_sheets g hl, q_b1_s]
        refine Ok.ite (fun _ => Ok.ret ⟨c, hc, rfl⟩) (fun hc2 => ?_)
        rw [nI_leI (by omega) (by omega)] at hc2
        have hx := fun c h => ih (j + 1) c (by omega) (by omega) h
        rw [← nI_1] at hx
        exact Ok.ain (by omega) (by decide) (Ok.ain hc (by decide) (Ok.k1 (fun v => ∃ c, c < 20000 ∧ v = nI c) (fun x => ∃ c, c < 20000 ∧ x = nI c) (fun v hv => by obtain ⟨c, h1, rfl⟩ := hv; exact Ok.nm (hx c h1)) (fun K hK => Ok.ite (fun _ => hK _ ⟨c, hc, rfl⟩) (fun _ => hK _ ⟨j, by omega, rfl⟩))))
    refine Ok.b1 (L N 1 0 (by omega) (by omega) (by omega)) (fun v hv => ?_)
    obtain ⟨c, hc, rfl⟩ := hv
    exact Ok.ite (fun _ => Ok.ain hc (by decide) Ok.t) (fun _ => Ok.t)
  · rw [if_neg h, if_neg (by decide)]; exact Ok.t
end MX
