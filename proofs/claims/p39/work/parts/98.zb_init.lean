/-! both sides at their start -/
section MI0
variable {N : Nat}
def z_R1 : Nat → Nat := fun l => if l = 0 then 1 else 2
theorem z_R1_kg {a b : Nat → Int32} (h : ∀ l, l < 5 → a l = nI (z_R1 l) ∧ b l = nI (z_R1 l)) : z_kg z_R1 z_R1 a b := by
  refine ⟨rfl, rfl, fun l _ => ?_, h, by decide⟩
  unfold z_R1
  split <;> omega
theorem z_c2kg : z_kg z_R1 z_R1 q_c2 q_c2 := z_R1_kg (fun l hl => by
  rcases (show l = 0 ∨ l = 1 ∨ l = 2 ∨ l = 3 ∨ l = 4 by omega) with rfl | rfl | rfl | rfl | rfl <;> exact ⟨rfl, rfl⟩)
theorem t_init_L142 : ∀ n i (f f' : Nat → Int32), i ≤ 5 → 5 - i < n → (∀ l, l < i → f l = nI (z_R1 l) ∧ f' l = nI (z_R1 l)) → Ok (f_M_init_L142 n (nI i) f f') (fun y => ∀ l, l < 5 → y.1 l = nI (z_R1 l) ∧ y.2 l = nI (z_R1 l)) := by
  intro n
  induction n with
  | zero => intro i f f' _ h; omega
  | succ n ih =>
    intro i f f' hi hn h
    rw [f_M_init_L142]
    refine Ok.ite (fun hc => ?_) (fun hc => ?_)
    all_goals rw [z_i 5, nI_leI (by omega) (by omega)] at hc
    · exact Ok.ret (fun l hl => h l (by omega))
    · have hk : ∀ {K : Int32 → Option ((Nat → Int32) × (Nat → Int32))} {P : (Nat → Int32) × (Nat → Int32) → Prop}, (∀ v, v = nI (z_R1 i) → Ok (K v) P) → Ok (if nI i = 0 then K 1 else K 2) P := by
        intro K P hK
        refine Ok.ite (fun h0 => hK 1 ?_) (fun h0 => hK 2 ?_)
        · rw [z_eq0 (by omega)] at h0; rw [h0]; rfl
        · rw [z_eq0 (by omega)] at h0; unfold z_R1; rw [if_neg h0]; rfl
      refine Ok.k1 (fun v => v = nI (z_R1 i)) (fun y => ∀ l, l < 5 → y.1 l = nI (z_R1 l) ∧ y.2 l = nI (z_R1 l)) (fun v17 h17 => Ok.asn (by omega) (by decide) ?_) (fun K hK => hk hK)
      refine Ok.k1 (fun v => v = nI (z_R1 i)) (fun y => ∀ l, l < 5 → y.1 l = nI (z_R1 l) ∧ y.2 l = nI (z_R1 l)) (fun v19 h19 => Ok.asn (by omega) (by decide) ?_) (fun K hK => hk hK)
      rw [z_nm, nI_1]
      refine ih (i + 1) _ _ (by omega) (by omega) (fun l hl => ?_)
      by_cases e : l = i
      · subst e; rw [z_updS, z_updS]; exact ⟨h17, h19⟩
      · rw [z_updN e, z_updN e]; exact h l (by omega)
theorem t_init_L185 : ∀ n i (f : Nat → Int32), i ≤ 44 → 44 - i < n → (∀ q, q < i + 1 → f q = nI (z_za q)) → Ok (f_M_init_L185 n (nI i) f) (fun y => ∀ q, q < 45 → y q = nI (z_za q)) := by
  intro n
  induction n with
  | zero => intro i f _ h; omega
  | succ n ih =>
    intro i f hi hn h
    rw [f_M_init_L185]
    refine Ok.ite (fun hc => ?_) (fun hc => ?_)
    all_goals rw [z_i 44, nI_leI (by omega) (by omega)] at hc
    · exact Ok.ret (fun q hq => h q (by omega))
    · rw [z_ai (by omega) (by omega), m_zonesOf i (by omega), q_b1_s, nI_1, z_as (by omega) (by omega), h i (by omega), nI_add, ← z_za_succ i (by omega), z_nm]
      refine ih (i + 1) _ (by omega) (by omega) (fun q hq => ?_)
      by_cases e : q = i + 1
      · subst e; rw [z_updS]
      · rw [z_updN e]; exact h q (by omega)
theorem t_init (hN : 1000000 ≤ N) : Ok (f_M_init N) (fun y => MOK z_R1 z_R1 (z_pr z_R1) (z_pr z_R1) y.1 y.2.1 y.2.2.1 y.2.2.2.1 y.2.2.2.2) := by
  unfold f_M_init
  refine Ok.nm (Ok.b2 (t_init_L142 N 0 _ _ (by omega) (by omega) (fun l hl => absurd hl (by omega))) (fun f5 f6 h5 => Ok.nm (Ok.b1 (t_init_L185 N 0 _ (by omega) (by omega) (fun q hq => ?_)) (fun f10 h10 => ?_))))
  · have : q = 0 := by omega
    subst this
    rfl
  · have hkg : z_kg z_R1 z_R1 f5 f6 := z_R1_kg h5
    exact Ok.b2 (t_laysGrids hkg hN _ _) (fun f11 f12 h11 => Ok.ret (z_mok hkg h10 h11))
end MI0
