/-! questions answered; cuts -/
section SV
variable {R C H V : Nat → Nat} {rc cc br zc rw sh : Nat → Int32} {N l ns : Nat}
theorem s_answerTo (g : GOK R C H V rc cc br zc rw sh) (hN : 100000 ≤ N) (hs2 : ns < 2 ^ 31) {j : Nat} (hj : j < 5) (w k ol ok : Int32) (f m : Nat → Int32) (a1 a2 a3 a4 a5 a6 : Int32) (a b : Nat → Int32) (mm : Int32) (c d : Nat → Int32) (v1 v2 v3 v4 v5 v6 b1 b2 b3 b4 : Int32) : z_or ns (Ok (f_X_answerTo N ns ns w (nI j) k ol ok f m a1 a2 a3 a4 a5 a6 a b mm c d v1 v2 v3 v4 v5 v6 b1 b2 b3 b4 br zc rw sh) (fun _ => True)) (fun nL => Ok (f_X_answerToN N nL ns w (nI j) k ol ok f m a1 a2 a3 a4 a5 a6 a b mm c d v1 v2 v3 v4 v5 v6 b1 b2 b3 b4 br zc rw sh) (fun _ => True)) := by
  by_cases h4 : w = 4
  · left
    unfold f_X_answerTo
    rw [if_pos h4]
    refine Ok.ite (fun _ => Ok.t) (fun h0 => ?_)
    have h1 : 1 ≤ j := by
      rcases Nat.eq_zero_or_pos j with h | h
      · exact absurd (by rw [h]; rfl) h0
      · exact h
    rw [z_sub1 h1]
    exact Ok.b1 (s_keyAbove g hN hj (by omega) _) (fun _ _ => Ok.t)
  by_cases h5 : 4 ≤ w
  · by_cases hl : nI j = ol
    · by_cases h6 : w = 5
      · rcases s_x_steps g hN hs2 a b mm c d v1 v2 v3 v4 v5 v6 (nI j) k ok with h | ⟨nL, n1, n2, n3, h⟩
        · left
          unfold f_X_answerTo
          rw [if_neg h4, if_pos h5, if_pos hl, if_pos h6]
          exact Ok.b12 h (fun _ _ _ _ _ _ _ _ _ _ _ _ _ => Ok.t)
        · right
          refine ⟨nL, n1, n2, n3, ?_⟩
          dsimp only at h ⊢
          unfold f_X_answerToN
          rw [if_neg h4, if_pos h5, if_pos hl, if_pos h6]
          exact Ok.b12 h (fun _ _ _ _ _ _ _ _ _ _ _ _ _ => Ok.t)
      · left
        unfold f_X_answerTo
        rw [if_neg h4, if_pos h5, if_pos hl, if_neg h6]
        exact Ok.b11 (s_x_between g hN _ _ _ _ _ _ _ _ _ _ _ _ _) (fun _ _ _ _ _ _ _ _ _ _ _ _ => Ok.t)
    · left
      unfold f_X_answerTo
      rw [if_neg h4, if_pos h5, if_neg hl]
      exact Ok.t
  · left
    unfold f_X_answerTo
    rw [if_neg h4, if_neg h5]
    exact Ok.b9 (s_x_neighbour g hN f m _ _ _ _ _ _ _ _ _ _) (fun _ _ _ _ _ _ _ _ _ _ => Ok.t)
/-- the tape's length behind a question -/
def z_tl (p : Int32) (t : Nat) (x : Int32) : Prop := (z_txc 100 p t ∧ x = nI 0) ∨ (¬ z_txc 100 p t ∧ x = nI t)
theorem s_x_ask (g : GOK R C H V rc cc br zc rw sh) (hN : 100000 ≤ N) (hs2 : ns < 2 ^ 31) {t : Nat} (ht : t ≤ 200) (tb : Nat → Int32) (qw ql qk ol ok n e lv ky fa fp es : Int32) (f m : Nat → Int32) (a1 a2 a3 a4 a5 a6 : Int32) (a b : Nat → Int32) (mm : Int32) (c d : Nat → Int32) (v1 v2 v3 v4 v5 v6 b1 b2 b3 b4 r1 r2 r3 r4 p : Int32) : z_or ns (Ok (f_X_ask N ns ns qw ql qk ol ok n e lv ky fa fp es tb (nI t) f m a1 a2 a3 a4 a5 a6 a b mm c d v1 v2 v3 v4 v5 v6 b1 b2 b3 b4 r1 r2 r3 r4 rc cc br zc rw sh p) (fun x => z_tl p t x.2.2.2.2.2.2.2.2.2.2.2.2.2.1)) (fun nL => Ok (f_X_askN N nL ns qw ql qk ol ok n e lv ky fa fp es tb (nI t) f m a1 a2 a3 a4 a5 a6 a b mm c d v1 v2 v3 v4 v5 v6 b1 b2 b3 b4 r1 r2 r3 r4 rc cc br zc rw sh p) (fun x => z_tl p t x.2.2.2.2.2.2.2.2.2.2.2.2.2.1)) := by
  obtain ⟨x1, e1, h1⟩ := s_isFrom p 1 100
  by_cases n1 : x1 = 0
  · left
    unfold f_X_ask
    rw [e1, q_b1_s, if_pos n1]
    exact Ok.ret (Or.inr ⟨fun z => z_if0 h1 n1 ⟨z.1, z.2.1⟩, rfl⟩)
  by_cases h3 : ¬ p ≤ nI t
  · left
    unfold f_X_ask
    rw [e1, q_b1_s, if_neg n1, if_neg h3]
    exact Ok.ret (Or.inr ⟨fun z => h3 (z_le.mpr (by rw [nI_toInt (by omega)]; exact z.2.2)), rfl⟩)
  have h3 := Decidable.not_not.mp h3
  have h3' := z_le.mp h3
  rw [nI_toInt (by omega)] at h3'
  have hc : z_txc 100 p t := ⟨(z_if1 h1 n1).1, (z_if1 h1 n1).2, h3'⟩
  obtain ⟨⟨y1, y2, y3, y4, y5, y6, y7, y8, y9, y10, y11, y12, y13⟩, e2, h2⟩ := s_question g hN ht tb qw ql qk ol ok n e lv ky fa fp es p
  obtain ⟨⟨u1, u2, u3, u4⟩, e4, -⟩ := s_countText y11 y13 r1 r2 r3 r4 y1
  by_cases n2 : y1 = 0
  · left
    unfold f_X_ask
    rw [e1, q_b1_s, if_neg n1, if_pos h3, e2, q_b13_s, e4, q_b4_s, if_pos n2]
    unfold f_NameReader_told
    rw [q_b1_s]
    exact Ok.ret (Or.inl ⟨hc, rfl⟩)
  obtain ⟨j, hj, hlv⟩ := h2.2 n2
  dsimp only at hlv
  subst hlv
  rcases s_answerTo g hN hs2 hj y2 y4 y5 y6 f m a1 a2 a3 a4 a5 a6 a b mm c d v1 v2 v3 v4 v5 v6 b1 b2 b3 b4 with h | ⟨nL, m1, m2, m3, h⟩
  · left
    unfold f_X_ask
    rw [e1, q_b1_s, if_neg n1, if_pos h3, e2, q_b13_s, e4, q_b4_s, if_neg n2]
    exact Ok.b24 h (fun _ _ _ _ _ _ _ _ _ _ _ _ _ _ _ _ _ _ _ _ _ _ _ _ _ => Ok.ret (Or.inl ⟨hc, rfl⟩))
  · right
    refine ⟨nL, m1, m2, m3, ?_⟩
    dsimp only at h ⊢
    unfold f_X_askN
    rw [e1, q_b1_s, if_neg n1, if_pos h3, e2, q_b13_s, e4, q_b4_s, if_neg n2]
    exact Ok.b24 h (fun _ _ _ _ _ _ _ _ _ _ _ _ _ _ _ _ _ _ _ _ _ _ _ _ _ => Ok.ret (Or.inl ⟨hc, rfl⟩))
end SV
