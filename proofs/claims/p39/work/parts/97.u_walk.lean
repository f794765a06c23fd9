/-! walks made anew or not; questions -/
section SW
variable {R C H V : Nat → Nat} {rc cc br zc rw sh : Nat → Int32} {N l ns : Nat}
theorem k_spreadN_eq (nL : Nat) (p1 v4 : Int32) : ∀ n (v9 v10 : Int32) (a b c d : Nat → Int32) (v1 v2 v3 v5 v6 v7 : Int32), f_Walk_spreadN_L35 N br rw sh zc nL p1 v4 n v9 v10 a b c d v1 v2 v3 v5 v6 v7 = f_Walk_spread_L35 N br rw sh zc nL nL p1 v4 n v9 v10 a b c d v1 v2 v3 v5 v6 v7 := by
  intro n
  induction n with
  | zero => intros; rfl
  | succ n ih =>
    intro v9 v10 a b c d v1 v2 v3 v5 v6 v7
    rw [f_Walk_spreadN_L35, f_Walk_spread_L35]
    simp only [ih]
theorem s_spread (g : GOK R C H V rc cc br zc rw sh) (hN : 100000 ≤ N) (hl : l < 5) (ht2 : 2130 * (H l * V l) + 2 ≤ 20000) (hs : 2130 * (H l * V l) + 2 ≤ ns) (hs2 : ns < 2 ^ 31) {k : Nat} (hk : k < 2130 * (H l * V l) + 2) (a b c d : Nat → Int32) (mm v1 v2 v3 v4 v5 v6 : Int32) : Ok (f_Walk_spread N ns ns a b mm c d v1 v2 v3 v4 v5 v6 br zc rw sh (nI l) (nI k)) (fun x => x.2.2.1 = nI (2130 * (H l * V l) + 2)) := by
  obtain ⟨a', b', c', d', w1, w2, w3, w4, w5, w6, h⟩ := k_spread g hN hl ht2 hs hs hs2 hs2 hk a b c d mm v1 v2 v3 v4 v5 v6
  exact ⟨_, h, rfl⟩
theorem s_spreadN (g : GOK R C H V rc cc br zc rw sh) (hN : 100000 ≤ N) (hl : l < 5) {tot : Nat} (ht : tot = 2130 * (H l * V l) + 2) (ht2 : tot ≤ 20000) (hs : ns < tot) {k : Nat} (hk : k < tot) (a b c d : Nat → Int32) (mm v1 v2 v3 v4 v5 v6 : Int32) : Ok (f_Walk_spreadN N tot ns a b mm c d v1 v2 v3 v4 v5 v6 br zc rw sh (nI l) (nI k)) (fun x => x.2.2.1 = nI tot) := by
  obtain ⟨-, -, -, -, -, e6⟩ := g.at hl
  obtain ⟨f, hf⟩ := k_makeRoomN (N := N) (tot := tot) (ns := ns) (by omega) hs ht2 a b mm
  unfold f_Walk_spreadN
  rw [z_ai hl (by omega), e6, ← ht, hf, q_b3_s, show (0 : Int32) = nI 0 from rfl, z_as (by omega) (by omega), z_as hk (by omega), z_nm, z_nm, z_i 1]
  obtain ⟨a', b', c', d', w1, w2, w3, w4, w5, w6, h⟩ := k_spread_L (ns := tot) (nr := tot) g hN hl ht ht2 (Nat.le_refl tot) (Nat.le_refl tot) (by omega) (by omega) N 0 1 (upd f k (nI 0)) (upd (fun _ => nI 0) 0 (nI k)) c d v1 v2 v3 v4 v5 v6 (by omega) (by omega) (by omega) (by
    intro j hj
    have : j = 0 := by omega
    subst this
    exact ⟨k, hk, z_updS⟩)
  rw [k_spreadN_eq]
  exact Ok.b10 (Q := fun _ => True) ⟨_, h, trivial⟩ (fun _ _ _ _ _ _ _ _ _ _ _ => Ok.ret rfl)
theorem s_onTheWay (g : GOK R C H V rc cc br zc rw sh) (hN : 100000 ≤ N) (hl : l < 5) {tot : Nat} (ht : tot = 2130 * (H l * V l) + 2) (ht2 : tot ≤ 20000) (hs : tot ≤ ns) (hs2 : ns < 2 ^ 31) {k : Nat} (hk : k < tot) (a c d : Nat → Int32) (v1 v2 v3 v4 v5 v6 i : Int32) : Ok (f_Walk_onTheWay N ns a (nI tot) c d v1 v2 v3 v4 v5 v6 br zc rw sh (nI l) (nI k) i) (fun _ => True) := by
  unfold f_Walk_onTheWay
  rw [z_nm]
  obtain ⟨r, c', d', w1, w2, w3, w4, w5, w6, h, -⟩ := k_onTheWay_L g hN hl ht ht2 hs hs2 a i N 0 k c d v1 v2 v3 v4 v5 v6 (by omega) (by omega) hk
  exact Ok.b9 (Q := fun _ => True) ⟨_, h, trivial⟩ (fun _ _ _ _ _ _ _ _ _ _ => Ok.t)
/-- as it stands, or with rows made anew -/
def z_or (ns : Nat) (A : Prop) (B : Nat → Prop) : Prop := A ∨ ∃ nL, ns < nL ∧ nL ≤ 20000 ∧ (∃ k, nL = 2130 * k + 2) ∧ B nL
theorem s_stepsTo {k : Nat} (hk : k < ns) (hs2 : ns < 2 ^ 31) (a : Nat → Int32) : Ok (f_Walk_stepsTo ns a (nI k)) (fun _ => True) := ⟨_, k_stepsTo hk hs2 a, trivial⟩
theorem s_x_steps (g : GOK R C H V rc cc br zc rw sh) (hN : 100000 ≤ N) (hs2 : ns < 2 ^ 31) (a b : Nat → Int32) (mm : Int32) (c d : Nat → Int32) (v1 v2 v3 v4 v5 v6 p q r : Int32) : z_or ns (Ok (f_X_steps N ns ns a b mm c d v1 v2 v3 v4 v5 v6 br zc rw sh p q r) (fun _ => True)) (fun nL => Ok (f_X_stepsN N nL ns a b mm c d v1 v2 v3 v4 v5 v6 br zc rw sh p q r) (fun _ => True)) := by
  obtain ⟨x1, e1, h1⟩ := s_areSheets g p q r
  by_cases n1 : x1 = 0
  · left; unfold f_X_steps; rw [e1, q_b1_s, if_pos n1]; exact Ok.t
  obtain ⟨⟨l, k, hl, rfl, rfl, hk⟩, ⟨l2, k2, hl2, el, rfl, hk2⟩⟩ := h1 n1
  have : l = l2 := by rw [nI_eq (by omega) (by omega)] at el; exact el
  subst this
  have hsh := g.2.sh hl
  obtain ⟨-, -, -, -, -, e6⟩ := g.at hl
  by_cases ht : 2130 * (H l * V l) + 2 ≤ 20000
  · by_cases hr : 2130 * (H l * V l) + 2 ≤ ns
    · left
      unfold f_X_steps
      rw [e1, q_b1_s, if_neg n1, z_ai hl (by omega), e6]
      refine Ok.ite (fun _ => ?_) (fun _ => Ok.t)
      exact Ok.b11 (s_spread g hN hl ht hr hs2 hk a b c d mm _ _ _ _ _ _) (fun _ _ _ _ _ _ _ _ _ _ _ _ => Ok.b1 (s_stepsTo (by omega) hs2 _) (fun _ _ => Ok.t))
    · right
      refine ⟨2130 * (H l * V l) + 2, by omega, ht, ⟨_, rfl⟩, ?_⟩
      dsimp only
      unfold f_X_stepsN
      rw [e1, q_b1_s, if_neg n1, z_ai hl (by omega), e6]
      refine Ok.ite (fun _ => ?_) (fun h => absurd (by rw [z_i 20000, nI_leI (by omega) (by omega)]; exact ht) h)
      exact Ok.b11 (s_spreadN g hN hl rfl ht (by omega) hk a b c d mm _ _ _ _ _ _) (fun _ _ _ _ _ _ _ _ _ _ _ _ => Ok.b1 (s_stepsTo (by omega) (by omega) _) (fun _ _ => Ok.t))
  · left
    unfold f_X_steps
    rw [e1, q_b1_s, if_neg n1, z_ai hl (by omega), e6]
    refine Ok.ite (fun h => ?_) (fun _ => Ok.t)
    rw [z_i 20000, nI_leI (by omega) (by omega)] at h
    exact absurd h ht
theorem s_x_way (g : GOK R C H V rc cc br zc rw sh) (hN : 100000 ≤ N) (hs2 : ns < 2 ^ 31) (a b : Nat → Int32) (mm : Int32) (c d : Nat → Int32) (v1 v2 v3 v4 v5 v6 p q r i : Int32) : z_or ns (Ok (f_X_way N ns ns a b mm c d v1 v2 v3 v4 v5 v6 br zc rw sh p q r i) (fun _ => True)) (fun nL => Ok (f_X_wayN N nL ns a b mm c d v1 v2 v3 v4 v5 v6 br zc rw sh p q r i) (fun _ => True)) := by
  obtain ⟨x1, e1, h1⟩ := s_areSheets g p q r
  by_cases n1 : x1 = 0
  · left; unfold f_X_way; rw [e1, q_b1_s, if_pos n1]; exact Ok.t
  by_cases hi : ¬ 0 ≤ i
  · left; unfold f_X_way; rw [e1, q_b1_s, if_neg n1, if_neg hi]; exact Ok.t
  have hi := Decidable.not_not.mp hi
  obtain ⟨⟨l, k, hl, rfl, rfl, hk⟩, ⟨l2, k2, hl2, el, rfl, hk2⟩⟩ := h1 n1
  have : l = l2 := by rw [nI_eq (by omega) (by omega)] at el; exact el
  subst this
  have hsh := g.2.sh hl
  obtain ⟨-, -, -, -, -, e6⟩ := g.at hl
  by_cases ht : 2130 * (H l * V l) + 2 ≤ 20000
  · by_cases hr : 2130 * (H l * V l) + 2 ≤ ns
    · left
      unfold f_X_way
      rw [e1, q_b1_s, if_neg n1, if_pos hi, z_ai hl (by omega), e6]
      refine Ok.ite (fun _ => ?_) (fun _ => Ok.t)
      refine Ok.b11 (s_spread g hN hl ht hr hs2 hk2 a b c d mm _ _ _ _ _ _) (fun _ _ v5 _ _ _ _ _ _ _ _ h5 => Ok.b1 (s_stepsTo (by omega) hs2 _) (fun _ _ => Ok.ite (fun _ => ?_) (fun _ => Ok.t)))
      simp only at h5
      subst h5
      exact Ok.b9 (s_onTheWay g hN hl rfl ht hr hs2 hk _ _ _ _ _ _ _ _ _ _) (fun _ _ _ _ _ _ _ _ _ _ => Ok.t)
    · right
      refine ⟨2130 * (H l * V l) + 2, by omega, ht, ⟨_, rfl⟩, ?_⟩
      dsimp only
      unfold f_X_wayN
      rw [e1, q_b1_s, if_neg n1, if_pos hi, z_ai hl (by omega), e6]
      refine Ok.ite (fun _ => ?_) (fun h => absurd (by rw [z_i 20000, nI_leI (by omega) (by omega)]; exact ht) h)
      refine Ok.b11 (s_spreadN g hN hl rfl ht (by omega) hk2 a b c d mm _ _ _ _ _ _) (fun _ _ v5 _ _ _ _ _ _ _ _ h5 => Ok.b1 (s_stepsTo (by omega) (by omega) _) (fun _ _ => Ok.ite (fun _ => ?_) (fun _ => Ok.t)))
      simp only at h5
      subst h5
      exact Ok.b9 (s_onTheWay g hN hl rfl ht (Nat.le_refl _) (by omega) hk _ _ _ _ _ _ _ _ _ _) (fun _ _ _ _ _ _ _ _ _ _ => Ok.t)
  · left
    unfold f_X_way
    rw [e1, q_b1_s, if_neg n1, if_pos hi, z_ai hl (by omega), e6]
    refine Ok.ite (fun h => ?_) (fun _ => Ok.t)
    rw [z_i 20000, nI_leI (by omega) (by omega)] at h
    exact absurd h ht
theorem s_within {tot : Nat} (hN : tot < N) (hs : tot ≤ ns) (hs2 : ns < 2 ^ 31) (p : Int32) (a : Nat → Int32) : Ok (f_Walk_within N ns a (nI tot) p) (fun _ => True) := by
  obtain ⟨r, h⟩ := k_within hN hs hs2 p a
  exact ⟨r, h, trivial⟩
theorem s_farthestKey {tot : Nat} (hN : tot < N) (hs : tot ≤ ns) (hs2 : ns < 2 ^ 31) (h0 : 1 ≤ tot) (a : Nat → Int32) : Ok (f_Walk_farthestKey N ns a (nI tot)) (fun x => ∃ r, x = nI r ∧ r < tot) := by
  obtain ⟨r, h, h1⟩ := k_farthestKey hN hs hs2 h0 a
  exact ⟨_, h, r, rfl, h1⟩
theorem s_x_reach (g : GOK R C H V rc cc br zc rw sh) (hN : 100000 ≤ N) (hs2 : ns < 2 ^ 31) (a b : Nat → Int32) (mm : Int32) (c d : Nat → Int32) (v1 v2 v3 v4 v5 v6 p q i : Int32) : z_or ns (Ok (f_X_reach N ns ns a b mm c d v1 v2 v3 v4 v5 v6 br zc rw sh p q i) (fun _ => True)) (fun nL => Ok (f_X_reachN N nL ns a b mm c d v1 v2 v3 v4 v5 v6 br zc rw sh p q i) (fun _ => True)) := by
  obtain ⟨x1, e1, h1⟩ := s_hasSheet g p q
  by_cases n1 : x1 = 0
  · left; unfold f_X_reach; rw [e1, q_b1_s, if_pos n1]; exact Ok.t
  by_cases hi : ¬ 0 ≤ i
  · left; unfold f_X_reach; rw [e1, q_b1_s, if_neg n1, if_neg hi]; exact Ok.t
  have hi := Decidable.not_not.mp hi
  obtain ⟨l, k, hl, rfl, rfl, hk⟩ := h1 n1
  have hsh := g.2.sh hl
  obtain ⟨-, -, -, -, -, e6⟩ := g.at hl
  by_cases ht : 2130 * (H l * V l) + 2 ≤ 20000
  · by_cases hr : 2130 * (H l * V l) + 2 ≤ ns
    · left
      unfold f_X_reach
      rw [e1, q_b1_s, if_neg n1, if_pos hi, z_ai hl (by omega), e6]
      refine Ok.ite (fun _ => ?_) (fun _ => Ok.t)
      refine Ok.b11 (s_spread g hN hl ht hr hs2 hk a b c d mm _ _ _ _ _ _) (fun _ _ v5 _ _ _ _ _ _ _ _ h5 => ?_)
      simp only at h5
      subst h5
      exact Ok.b1 (s_within (by omega) hr hs2 _ _) (fun _ _ => Ok.t)
    · right
      refine ⟨2130 * (H l * V l) + 2, by omega, ht, ⟨_, rfl⟩, ?_⟩
      dsimp only
      unfold f_X_reachN
      rw [e1, q_b1_s, if_neg n1, if_pos hi, z_ai hl (by omega), e6]
      refine Ok.ite (fun _ => ?_) (fun h => absurd (by rw [z_i 20000, nI_leI (by omega) (by omega)]; exact ht) h)
      refine Ok.b11 (s_spreadN g hN hl rfl ht (by omega) hk a b c d mm _ _ _ _ _ _) (fun _ _ v5 _ _ _ _ _ _ _ _ h5 => ?_)
      simp only at h5
      subst h5
      exact Ok.b1 (s_within (by omega) (Nat.le_refl _) (by omega) _ _) (fun _ _ => Ok.t)
  · left
    unfold f_X_reach
    rw [e1, q_b1_s, if_neg n1, if_pos hi, z_ai hl (by omega), e6]
    refine Ok.ite (fun h => ?_) (fun _ => Ok.t)
    rw [z_i 20000, nI_leI (by omega) (by omega)] at h
    exact absurd h ht
theorem s_x_farthest (g : GOK R C H V rc cc br zc rw sh) (hN : 100000 ≤ N) (hs2 : ns < 2 ^ 31) (a b : Nat → Int32) (mm : Int32) (c d : Nat → Int32) (v1 v2 v3 v4 v5 v6 p q i : Int32) : z_or ns (Ok (f_X_farthest N ns ns a b mm c d v1 v2 v3 v4 v5 v6 br zc rw sh p q i) (fun _ => True)) (fun nL => Ok (f_X_farthestN N nL ns a b mm c d v1 v2 v3 v4 v5 v6 br zc rw sh p q i) (fun _ => True)) := by
  obtain ⟨x1, e1, h1⟩ := s_hasSheet g p q
  obtain ⟨x2, e2, h2⟩ := s_isFrom i 0 1
  by_cases n1 : x1 = 0
  · left; unfold f_X_farthest; rw [e1, q_b1_s, if_pos n1]; exact Ok.t
  by_cases n2 : x2 = 0
  · left; unfold f_X_farthest; rw [e1, q_b1_s, if_neg n1, e2, q_b1_s, if_pos n2]; exact Ok.t
  obtain ⟨l, k, hl, rfl, rfl, hk⟩ := h1 n1
  have hsh := g.2.sh hl
  obtain ⟨-, -, -, -, -, e6⟩ := g.at hl
  by_cases ht : 2130 * (H l * V l) + 2 ≤ 20000
  · by_cases hr : 2130 * (H l * V l) + 2 ≤ ns
    · left
      unfold f_X_farthest
      rw [e1, q_b1_s, if_neg n1, e2, q_b1_s, if_neg n2, z_ai hl (by omega), e6]
      refine Ok.ite (fun _ => ?_) (fun _ => Ok.t)
      refine Ok.b11 (s_spread g hN hl ht hr hs2 hk a b c d mm _ _ _ _ _ _) (fun _ _ v5 _ _ _ _ _ _ _ _ h5 => ?_)
      simp only at h5
      subst h5
      refine Ok.b1 (s_farthestKey (by omega) hr hs2 (by omega) _) (fun v15 h15 => Ok.ite (fun _ => ?_) (fun _ => Ok.t))
      obtain ⟨r, rfl, hr2⟩ := h15
      exact Ok.b1 (s_stepsTo (by omega) hs2 _) (fun _ _ => Ok.t)
    · right
      refine ⟨2130 * (H l * V l) + 2, by omega, ht, ⟨_, rfl⟩, ?_⟩
      dsimp only
      unfold f_X_farthestN
      rw [e1, q_b1_s, if_neg n1, e2, q_b1_s, if_neg n2, z_ai hl (by omega), e6]
      refine Ok.ite (fun _ => ?_) (fun h => absurd (by rw [z_i 20000, nI_leI (by omega) (by omega)]; exact ht) h)
      refine Ok.b11 (s_spreadN g hN hl rfl ht (by omega) hk a b c d mm _ _ _ _ _ _) (fun _ _ v5 _ _ _ _ _ _ _ _ h5 => ?_)
      simp only at h5
      subst h5
      refine Ok.b1 (s_farthestKey (by omega) (Nat.le_refl _) (by omega) (by omega) _) (fun v15 h15 => Ok.ite (fun _ => ?_) (fun _ => Ok.t))
      obtain ⟨r, rfl, hr2⟩ := h15
      exact Ok.b1 (s_stepsTo (by omega) (by omega) _) (fun _ _ => Ok.t)
  · left
    unfold f_X_farthest
    rw [e1, q_b1_s, if_neg n1, e2, q_b1_s, if_neg n2, z_ai hl (by omega), e6]
    refine Ok.ite (fun h => ?_) (fun _ => Ok.t)
    rw [z_i 20000, nI_leI (by omega) (by omega)] at h
    exact absurd h ht
end SW
