/-! the reference keeps and undoes in a good state -/
theorem l_M_keep (l : Launch) (D : va_G) (ci : Nat → ClassId) (A : Nat → Prop) (sa : Nat → Nat) {a_m t s0 : Nat} {sv : l_T} {kv : Nat → l_T} {Wd : va_W} (R : va_W) (h : MI ci a_m Wd t s0 sv kv) : ∃ r : Int32, r = l_kr s0 ∧ Met l yX11_keep wsX11_keep ({ frames := 1, cells := 0, slots := 0, locals := 21 }) (va_Pc [.ref a_m] (q_N D ci A sa (Wd ++ R))) (q_Q (some (.int r)) (fun t2 => ∃ W3, ((fun W3 => MI ci a_m W3 t (l_ks s0) sv (l_kc s0 sv kv)) W3) ∧ q_O D A (W3 ++ R) t2) A) 0 0 A := by
  obtain ⟨a, u, v, f, h, rfl, ⟨ht, htl0⟩, g, ⟨hsz, hpc, hrp, hyr⟩, hs8, hks, hk⟩ := h
  have hs := z_ps_of hpc hrp
  have hOk : Ok (f_M_keep 3000000 (f 1) (f 2) (u 6) (u 7) (u 8) (u 9) (u 19) (u 20) (f 10) (f 11) (f 12) (f 14) (u 22) (f 15)) (fun x => x.1 = l_kr s0 ∧ l_ks s0 ≤ 8 ∧ x.2.1 = nI (l_ks s0) ∧ ∀ j, j < l_ks s0 → lM_ok (l_kc s0 sv kv j) x.2.2.1 j) := by
    rw [hks, hsz]
    by_cases h8 : s0 = 8
    · subst h8; rw [l_kc8]; exact ⟨_, t_keepNo _ _ _ _ _ _ _ _ _ _ _ _ _, rfl, by decide, rfl, hk⟩
    · have e1 : l_ks s0 = s0 + 1 := if_neg h8
      have e2 : l_kr s0 = nI (s0 + 1) := if_neg h8
      rw [e1, e2]
      refine Ok.weak (r_m_keep g (Nat.le_of_ble_eq_true rfl) hpc.1 hrp (s := s0) (by omega) _ _ _ _ _ _ _) (fun x hx => ⟨hx.1, by omega, hx.2.1, fun j hj => ?_⟩)
      by_cases e : j = s0
      · subst e; rw [l_kcS h8]; exact ⟨hx.2.2.1, hpc, hyr⟩
      · rw [l_kcN h8 e]; exact ⟨z_mkT_same (hk j (by omega)).2.1.1 (hk j (by omega)).1 (fun i hi => hx.2.2.2 i (by omega)), (hk j (by omega)).2⟩
  obtain ⟨⟨r, o1, o2, o3, o4⟩, hf, e0, e1, e2, e3⟩ := hOk
  dsimp only at e0 e1 e2 e3
  exact ⟨r, e0, q_wrI (W3 := MW ci a_m a (l_up (l_up u 20 o1) 22 o3) v (l_up (l_up f 14 o2) 15 o4) h) (I := fun W3 => MI ci a_m W3 t (l_ks s0) sv (l_kc s0 sv kv)) (q_wr 18 [0, 2, 3, 12, 13, 14, 16, 17, 1, 4, 5, 6, 7, 8, 9, 10, 11, 15] rfl ⟨rfl, rfl, rfl⟩ [0, 8, 1, 2, 9, 10, 11, 12, 13, 14, 15, 16, 3, 4, 5, 17, 6, 7] (c_M_keep l D ci A sa 3000000 (((a 7), .inl (ci 2, 200, .inl (f 0))) :: ((a 2), .inl (ci 0, 5, .inl (f 3))) :: ((a 3), .inl (ci 0, 5, .inl (f 4))) :: ((a 4), .inl (ci 0, 45, .inl (f 5))) :: ((a 5), .inl (ci 0, 20, .inl (f 6))) :: ((a 8), .inl (ci 1, 4, .inr (.inl (h 0)))) :: ((a 9), .inl (ci 0, 20000, .inl (f 7))) :: ((a 10), .inl (ci 0, 20000, .inl (f 8))) :: ((a 6), .inl (ci 0, 20, .inl (f 9))) :: ((a 14), .inl (ci 0, 200, .inl (f 13))) :: R) a_m (a 0) (a 1) (a 2) (a 3) (a 4) (a 5) (a 6) (a 7) (a 8) (a 9) (a 10) (a 11) (a 12) (a 13) (a 14) (a 15) (a 16) (u 0) (u 1) (u 2) (u 3) (u 4) (u 5) (u 6) (u 7) (u 8) (u 9) (v 0) (v 1) (u 10) (u 11) (u 12) (u 13) (u 14) (u 15) (u 16) (u 17) (u 18) (u 19) (u 20) (u 21) (u 22) (f 1) (f 2) (f 10) (f 11) (f 12) (f 14) (f 15) r o1 o2 o3 o4 hf) rfl ⟨rfl, rfl, rfl⟩) ⟨a, (l_up (l_up u 20 o1) 22 o3), v, (l_up (l_up f 14 o2) 15 o4), h, rfl, ⟨ht, htl0⟩, g, ⟨hsz, hpc, hrp, hyr⟩, ⟨e1, e2, e3⟩⟩⟩
theorem l_M_undo (l : Launch) (D : va_G) (ci : Nat → ClassId) (A : Nat → Prop) (sa : Nat → Nat) {a_m t s0 : Nat} {sv : l_T} {kv : Nat → l_T} {Wd : va_W} (R : va_W) (h : MI ci a_m Wd t s0 sv kv) : ∃ r : Int32, r = l_ur s0 ∧ Met l yX11_undo wsX11_undo ({ frames := 1, cells := 0, slots := 0, locals := 21 }) (va_Pc [.ref a_m] (q_N D ci A sa (Wd ++ R))) (q_Q (some (.int r)) (fun t2 => ∃ W3, ((fun W3 => MI ci a_m W3 t (s0 - 1) (l_uc sv kv s0) kv) W3) ∧ q_O D A (W3 ++ R) t2) A) 0 0 A := by
  obtain ⟨a, u, v, f, h, rfl, ⟨ht, htl0⟩, g, ⟨hsz, hpc, hrp, hyr⟩, hs8, hks, hk⟩ := h
  have hs := z_ps_of hpc hrp
  have hpc2 : z_pc (z_pr (l_R (l_uc sv kv s0))) (z_pr (l_C (l_uc sv kv s0))) (l_m (l_uc sv kv s0)) (l_L (l_uc sv kv s0)) (l_K (l_uc sv kv s0)) ∧ z_yr (l_m (l_uc sv kv s0)) (l_Y (l_uc sv kv s0)) := by
    rcases Nat.eq_zero_or_pos s0 with h0 | h0
    · subst h0; exact ⟨hpc, hyr⟩
    · obtain ⟨k, rfl⟩ : ∃ k, s0 = k + 1 := ⟨s0 - 1, by omega⟩
      exact (hk k (by omega)).2
  have hOk : Ok (f_M_undo 3000000 (f 1) (f 2) (f 3) (f 4) (u 6) (u 7) (u 8) (u 9) (u 19) (u 20) (f 10) (f 11) (f 12) (f 14) (u 22) (f 15)) (fun x => x.1 = l_ur s0 ∧ MOK (l_R (l_uc sv kv s0)) (l_C (l_uc sv kv s0)) (z_pr (l_R (l_uc sv kv s0))) (z_pr (l_C (l_uc sv kv s0))) x.2.1 x.2.2.1 x.2.2.2.1 x.2.2.2.2.1 (f 5) ∧ x.2.2.2.2.2.2.2.2.2.1 = nI (l_m (l_uc sv kv s0)) ∧ x.2.2.2.2.2.2.2.2.2.2.1 = nI (s0 - 1) ∧ z_rp (l_m (l_uc sv kv s0)) (l_L (l_uc sv kv s0)) (l_K (l_uc sv kv s0)) (l_Y (l_uc sv kv s0)) x.2.2.2.2.2.2.2.2.2.2.2.1 x.2.2.2.2.2.2.2.2.2.2.2.2.1 x.2.2.2.2.2.2.2.2.2.2.2.2.2.1) := by
    rw [hks, hsz]
    rcases Nat.eq_zero_or_pos s0 with h0 | h0
    · subst h0; exact ⟨_, t_undo0 _ _ _ _ _ _ _ _, rfl, g, rfl, rfl, hrp⟩
    · obtain ⟨k, rfl⟩ : ∃ k, s0 = k + 1 := ⟨s0 - 1, by omega⟩
      have e2 : l_ur (k + 1) = nI k := by unfold l_ur; rw [if_neg (by omega), Nat.add_sub_cancel]
      rw [e2, Nat.add_sub_cancel]
      exact r_m_undo g (Nat.le_of_ble_eq_true rfl) (hk k (by omega)).1 (hk k (by omega)).2.1.1 (by omega) _ _ _ _ _ _ _
  obtain ⟨⟨r, o1, o2, o3, o4, o5, o6, o7, o8, o9, o10, o11, o12, o13, o14⟩, hf, e0, e1, e2, e3, e4⟩ := hOk
  dsimp only at e0 e1 e2 e3 e4
  exact ⟨r, e0, q_wrI (W3 := MW ci a_m a (l_up (l_up (l_up (l_up (l_up (l_up (l_up u 6 o5) 7 o6) 8 o7) 9 o8) 19 o9) 20 o10) 22 o14) v (l_up (l_up (l_up (l_up (l_up (l_up (l_up f 1 o1) 2 o2) 3 o3) 4 o4) 10 o11) 11 o12) 12 o13) h) (I := fun W3 => MI ci a_m W3 t (s0 - 1) (l_uc sv kv s0) kv) (q_wr 18 [0, 2, 3, 4, 5, 12, 13, 14, 16, 17, 1, 6, 7, 8, 9, 10, 11, 15] rfl ⟨rfl, rfl, rfl⟩ [0, 10, 1, 2, 3, 4, 11, 12, 13, 14, 15, 16, 5, 6, 7, 17, 8, 9] (c_M_undo l D ci A sa 3000000 (((a 7), .inl (ci 2, 200, .inl (f 0))) :: ((a 4), .inl (ci 0, 45, .inl (f 5))) :: ((a 5), .inl (ci 0, 20, .inl (f 6))) :: ((a 8), .inl (ci 1, 4, .inr (.inl (h 0)))) :: ((a 9), .inl (ci 0, 20000, .inl (f 7))) :: ((a 10), .inl (ci 0, 20000, .inl (f 8))) :: ((a 6), .inl (ci 0, 20, .inl (f 9))) :: ((a 14), .inl (ci 0, 200, .inl (f 13))) :: R) a_m (a 0) (a 1) (a 2) (a 3) (a 4) (a 5) (a 6) (a 7) (a 8) (a 9) (a 10) (a 11) (a 12) (a 13) (a 14) (a 15) (a 16) (u 0) (u 1) (u 2) (u 3) (u 4) (u 5) (u 6) (u 7) (u 8) (u 9) (v 0) (v 1) (u 10) (u 11) (u 12) (u 13) (u 14) (u 15) (u 16) (u 17) (u 18) (u 19) (u 20) (u 21) (u 22) (f 1) (f 2) (f 3) (f 4) (f 10) (f 11) (f 12) (f 14) (f 15) r o1 o2 o3 o4 o5 o6 o7 o8 o9 o10 o11 o12 o13 o14 hf) rfl ⟨rfl, rfl, rfl⟩) ⟨a, (l_up (l_up (l_up (l_up (l_up (l_up (l_up u 6 o5) 7 o6) 8 o7) 9 o8) 19 o9) 20 o10) 22 o14), v, (l_up (l_up (l_up (l_up (l_up (l_up (l_up f 1 o1) 2 o2) 3 o3) 4 o4) 10 o11) 11 o12) 12 o13), h, rfl, ⟨ht, htl0⟩, e1, ⟨e2, hpc2.1, e4, hpc2.2⟩, ⟨by omega, e3, fun j hj => hk j (by omega)⟩⟩⟩
