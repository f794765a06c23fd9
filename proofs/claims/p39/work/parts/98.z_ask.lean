/-! the reference: feed, named, ask -/
section MA
variable {R C H V : Nat → Nat} {cr cq dp wd za : Nat → Int32} {N l : Nat} {tb : Nat → Int32}
theorem m_typed4 (hN : 1000000 ≤ N) (v : Int32) (f : Nat → Int32) {t : Nat} (h : t + 4 ≤ 200) : ∃ f2, f_M_typed4 N f (nI t) v = some (f2, nI (t + 4)) := by
  have L : ∀ n j t (f : Nat → Int32), j < n → t + j ≤ 200 → ∃ f2, f_M_typed4_L2 v n (nI j - 1) f (nI t) = some (f2, nI (t + j)) := by
    intro n
    induction n with
    | zero => intro j t f h; omega
    | succ n ih =>
      intro j t f hj ht
      rw [f_M_typed4_L2]
      by_cases h0 : j = 0
      · subst h0
        exact ⟨f, by rw [if_pos (by decide)]; rfl⟩
      · rw [z_sub1 (by omega), if_neg (z_lt0 (by omega)), z_asb (by omega) (by omega), nI_1, z_nm, z_m1, z_nm]
        obtain ⟨f2, e⟩ := ih (j - 1) (t + 1) (upd f t (vp_nar .byte ((v >>> ((8 * nI (j - 1)) &&& 31)).toInt8.toInt32))) (by omega) (by omega)
        exact ⟨f2, by rw [e, show t + 1 + (j - 1) = t + j by omega]⟩
  obtain ⟨f2, e⟩ := L N 4 t f (by omega) h
  refine ⟨f2, ?_⟩
  unfold f_M_typed4
  rw [z_nm]
  exact (congrArg (fun m => q_b2 m (fun (f5 : Nat → Int32) (v6 : Int32) => some (f5, v6))) e)
theorem t_feed (hN : 1000000 ≤ N) (f : Nat → Int32) {t : Nat} (ht : t ≤ 200) (a b c d e : Int32) : Ok (f_M_feed N f (nI t) a b c d e) (fun x => x.1 = (if t ≤ 180 then nI (t + 20) else -1) ∧ x.2.2 = (if t ≤ 180 then nI (t + 20) else nI t)) := by
  unfold f_M_feed
  rw [z_i 20, nI_add, z_i 200]
  refine Ok.ite (fun h => ?_) (fun h => ?_)
  all_goals rw [nI_leI (by omega) (by omega)] at h
  · obtain ⟨f1, h1⟩ := m_typed4 hN a f (t := t) (by omega)
    obtain ⟨f2, h2⟩ := m_typed4 hN b f1 (t := t + 4) (by omega)
    obtain ⟨f3, h3⟩ := m_typed4 hN c f2 (t := t + 4 + 4) (by omega)
    obtain ⟨f4, h4⟩ := m_typed4 hN d f3 (t := t + 4 + 4 + 4) (by omega)
    obtain ⟨f5, h5⟩ := m_typed4 hN e f4 (t := t + 4 + 4 + 4 + 4) (by omega)
    rw [h1, q_b2_s, h2, q_b2_s, h3, q_b2_s, h4, q_b2_s, h5, q_b2_s]
    exact Ok.ret ⟨by rw [if_pos (by omega)], by rw [if_pos (by omega)]⟩
  · exact Ok.ret ⟨by rw [if_neg (by omega)], by rw [if_neg (by omega)]⟩
theorem t_see {p e : Nat} (hp : p < 2 ^ 31) (he : e ≤ 200) : Ok (f_M_see tb (nI p) (nI e)) (fun y => y = -1 ∨ p < e) := by
  unfold f_M_see
  refine Ok.ite (fun _ => Ok.ret (Or.inl rfl)) (fun h => ?_)
  rw [nI_leI (by omega) (by omega)] at h
  exact Ok.ain (by omega) (by decide) (Ok.ret (Or.inr (by omega)))
theorem t_wrong (a b c : Int32) : Ok (f_M_wrong a b c) (fun y => y.1 = 0) := by
  unfold f_M_wrong
  exact Ok.ite (fun _ => Ok.nm (Ok.ret rfl)) (fun _ => Ok.ret rfl)
theorem t_counts_L {p e : Nat} (hp : p ≤ 1000) (he : e ≤ 200) : ∀ n q (a b : Int32), p ≤ q → q ≤ p + 2 → p + 2 - q < n → Ok (f_M_counts_L10 (nI p) tb (nI e) n (nI q) a b) (Sum.elim (fun x => ∃ q, x.1 = nI q ∧ p ≤ q ∧ q ≤ p + 2) (fun r => r.1 = 0 ∧ ∃ q, r.2.1 = nI q ∧ q ≤ p + 2)) := by
  intro n
  induction n with
  | zero => intro q a b _ _ h; omega
  | succ n ih =>
    intro q a b h1 h2 hn
    rw [f_M_counts_L10]
    refine Ok.b1 (t_see (by omega) he) (fun v13 h13 => Ok.b1 (t_in _ _ _) (fun v14 h14 => Ok.ite (fun _ => Ok.ret (show ∃ _, _ from ⟨q, rfl, h1, h2⟩)) (fun n14 => ?_)))
    have hin := z_if1 h14 n14
    rw [z_toL, show (48 : Int64).toInt = 48 from rfl] at hin
    have hq : q < e := by
      rcases h13 with z | z
      · rw [z, show (-1 : Int32).toInt = -1 from rfl] at hin; omega
      · exact z
    rw [pk_sub h1, z_i 2]
    refine Ok.ite (fun _ => Ok.b2 (t_wrong _ _ _) (fun v18 v19 h18 => Ok.bo (Or.inl h18) (Ok.ret (show _ ∧ _ from ⟨h18, q, rfl, h2⟩)))) (fun h5 => Ok.ain (by omega) (by decide) (Ok.nm ?_))
    rw [nI_eq (by omega) (by omega)] at h5
    rw [z_nm, nI_1]
    exact ih (q + 1) _ _ (by omega) (by omega) (by omega)
theorem t_counts (hN : 1000000 ≤ N) {p e : Nat} (hp : p ≤ 1000) (he : e ≤ 200) (fa nu mo : Int32) : Ok (f_M_counts N tb (nI p) fa nu (nI e) mo) (fun y => (y.1 = 0 ∨ y.1 = 1) ∧ (∃ q, y.2.1 = nI q ∧ q ≤ p + 2) ∧ (¬ y.1 = 0 → 1 ≤ y.2.2.2.toInt ∧ y.2.2.2.toInt ≤ mo.toInt)) := by
  unfold f_M_counts
  refine Ok.s3 (t_counts_L (tb := tb) hp he N p fa 0 (Nat.le_refl _) (by omega) (by omega)) (fun v4 v5 v6 h4 => ?_) (fun r hr => ?_)
  · obtain ⟨q, e4, q1, q2⟩ := h4
    dsimp only at e4
    subst e4
    refine Ok.ite (fun _ => Ok.b2 (t_wrong _ _ _) (fun v11 v12 h11 => Ok.bo (Or.inl h11) (Ok.ret ⟨Or.inl h11, ⟨q, rfl, q2⟩, fun z => absurd h11 z⟩))) (fun _ => Ok.b1 (t_in _ _ _) (fun v7 h7 => ?_))
    refine Ok.k1 (fun _ => 1 ≤ v6.toInt ∧ v6.toInt ≤ mo.toInt) (fun y => (y.1 = 0 ∨ y.1 = 1) ∧ (∃ q, y.2.1 = nI q ∧ q ≤ p + 2) ∧ (¬ y.1 = 0 → 1 ≤ y.2.2.2.toInt ∧ y.2.2.2.toInt ≤ mo.toInt)) (fun v8 h8 => Ok.ret ⟨Or.inr rfl, ⟨q, rfl, q2⟩, fun _ => h8⟩) (fun K hK => Ok.ite (fun _ => Ok.b2 (t_wrong _ _ _) (fun v9 v10 h9 => Ok.ite (fun _ => Ok.ret ⟨Or.inl rfl, ⟨q, rfl, q2⟩, fun z => absurd rfl z⟩) (fun z => absurd h9 z))) (fun n7 => hK _ ?_))
    have hin := z_if1 h7 n7
    rw [z_toL, z_toL, show (1 : Int64).toInt = 1 from rfl] at hin
    exact hin
  · obtain ⟨h0, q, e4, q2⟩ := hr
    exact ⟨Or.inl h0, ⟨q, e4, q2⟩, fun z => absurd h0 z⟩
def z_nm2 (H V : Nat → Nat) (i r c : Nat) : Prop := i ≤ 4 ∧ r < 44 * H i ∧ c < z_bz (r / H i) * V i
theorem t_read_L (g : MOK R C H V cr cq dp wd za) (hN : 1000000 ≤ N) {e : Nat} (he : e ≤ 200) (ky : Int32) : ∀ n i r c p (fa nu : Int32), 4 - i < n → p + 3 * (4 - i) ≤ 900 → z_nm2 H V i r c → Ok (f_M_readsName_L194 N cq cr ky tb (nI e) n (nI r) (nI c) (nI p) fa nu (nI i)) (Sum.elim (fun x => ∃ i r c, x.1 = nI r ∧ x.2.1 = nI c ∧ x.2.2.2.2.2 = nI i ∧ z_nm2 H V i r c) (fun x => x.1 = 0)) := by
  intro n
  induction n with
  | zero => intro i r c p fa nu h; omega
  | succ n ih =>
    intro i r c p fa nu hn hp hz
    have hz' := hz
    obtain ⟨hi, hr, hc⟩ := hz'
    have hi5 : i < 5 := by omega
    have hv := g.2.2.hv hi5
    have hps := g.2.2.pos i hi5
    rw [f_M_readsName_L194]
    refine Ok.ite (fun _ => Ok.ret (show ∃ _, _ from ⟨i, r, c, rfl, rfl, rfl, hz⟩)) (fun _ => Ok.b1 (t_see (by omega) he) (fun v26 _ => Ok.ite (fun _ => Ok.ite (fun _ => Ok.b2 (t_wrong _ _ _) (fun v40 v41 h40 => Ok.bo (Or.inl h40) (Ok.ret h40))) (fun h4 => ?_)) (fun _ => Ok.b2 (t_wrong _ _ _) (fun v42 v43 h42 => Ok.bo (Or.inl h42) (Ok.ret h42)))))
    rw [z_i 4, nI_eq (by omega) (by omega)] at h4
    have hj5 : i + 1 < 5 := by omega
    have hRC := g.2.2.2.2.2.2.2.1 (i + 1) hj5
    have hst := g.2.2.2.2.2.2.1 i (by omega)
    obtain ⟨e1, e2, -, -⟩ := g.1 (i + 1) hj5
    rw [nI_1, z_nm, nI_1, z_nm, z_ai hj5 (by omega), z_ai hj5 (by omega), e1, e2, pk_mul]
    have hb : R (i + 1) * C (i + 1) ≤ 36 := Nat.mul_le_mul hRC.2.1 hRC.2.2.2
    refine Ok.b4 (t_counts hN (p := p + 1) (by omega) he fa nu _) (fun v31 v32 v33 v34 h31 => Ok.ite (fun _ => Ok.ret rfl) (fun n31 => ?_))
    obtain ⟨-, ⟨q, hq, q2⟩, h3⟩ := h31
    dsimp only at hq h3
    subst hq
    have h3' := h3 n31
    rw [nI_toInt (by omega)] at h3'
    obtain ⟨u, u1, rfl, u3⟩ := z_nat (r := v34) (by omega)
    have hRc : 1 * 1 ≤ R (i + 1) * C (i + 1) := Nat.mul_le_mul hRC.1 hRC.2.2.1
    have hu : u - 1 < R (i + 1) * C (i + 1) := by omega
    have hu1 : (u - 1) / C (i + 1) < R (i + 1) := Nat.div_lt_of_lt_mul (by rw [Nat.mul_comm]; exact hu)
    have hu2 : (u - 1) % C (i + 1) < C (i + 1) := Nat.mod_lt _ hRC.2.2.1
    have hrR : r * R (i + 1) + (u - 1) / C (i + 1) < 44 * H (i + 1) := by
      rw [hst.1, ← Nat.mul_assoc]
      calc r * R (i + 1) + (u - 1) / C (i + 1) < r * R (i + 1) + R (i + 1) := by omega
        _ = (r + 1) * R (i + 1) := (Nat.succ_mul _ _).symm
        _ ≤ 44 * H i * R (i + 1) := Nat.mul_le_mul_right _ (by omega)
    have hdiv : (r * R (i + 1) + (u - 1) / C (i + 1)) / H (i + 1) = r / H i := by
      rw [hst.1, Nat.mul_comm (H i), ← Nat.div_div_eq_div_mul, Nat.mul_comm r, Nat.mul_add_div hRC.1, Nat.div_eq_of_lt hu1, Nat.add_zero]
    have hcC : c * C (i + 1) + (u - 1) % C (i + 1) < z_bz (r / H i) * V (i + 1) := by
      rw [hst.2, ← Nat.mul_assoc]
      calc c * C (i + 1) + (u - 1) % C (i + 1) < c * C (i + 1) + C (i + 1) := by omega
        _ = (c + 1) * C (i + 1) := (Nat.succ_mul _ _).symm
        _ ≤ z_bz (r / H i) * V i * C (i + 1) := Nat.mul_le_mul_right _ (by omega)
    rw [z_ai hj5 (by omega), e1, z_sub1 (by omega), z_dv (by omega) hRC.2.2.1 (by omega), pk_mul, pk_mul, nI_add, z_nm, z_rm (by omega) hRC.2.2.1 (by omega), nI_add, z_nm]
    exact ih (i + 1) _ _ q v33 _ (by omega) (by omega) ⟨by omega, hrR, by rw [hdiv]; exact hcC⟩
abbrev z_rdm (H V : Nat → Nat) (y : Int32 × Int32 × Int32 × Int32 × Int32 × Int32) : Prop := (y.1 = 0 ∨ y.1 = 1) ∧ (¬ y.1 = 0 → z_hs H V y.2.2.2.2.1 y.2.2.2.2.2)
theorem t_readsName (g : MOK R C H V cr cq dp wd za) (hN : 1000000 ≤ N) {p e : Nat} (hp : p ≤ 300) (he : e ≤ 200) (fa nu lv ky : Int32) : Ok (f_M_readsName N cr cq dp wd za tb (nI p) fa nu lv ky (nI e)) (z_rdm H V) := by
  have W : ∀ (a b c : Int32) (k : Int32 → Int32 → Option (Int32 × Int32 × Int32 × Int32 × Int32 × Int32)), (∀ x y, x = 0 → Ok (k x y) (z_rdm H V)) → Ok (q_b2 (f_M_wrong a b c) k) (z_rdm H V) := fun a b c k h => Ok.b2 (t_wrong a b c) (fun x y hx => h x y hx)
  have W0 : ∀ (x a b c d e : Int32), x = 0 → Ok (q_bo x (some (x, a, b, c, d, e))) (z_rdm H V) := fun x a b c d e hx => Ok.bo (Or.inl hx) (Ok.ret ⟨Or.inl hx, fun z => absurd hx z⟩)
  have h00 := g.2.2.2.2.1
  have h01 := g.2.2.2.2.2.1
  have hs0 := g.2.2.sh (l := 0) (by omega)
  unfold f_M_readsName
  refine Ok.b1 (t_see (by omega) he) (fun v1 _ => ?_)
  refine Ok.k0 (z_rdm H V) ?_ (fun K hK => Ok.ite (fun _ => hK) (fun _ => Ok.ite (fun _ => hK) (fun _ => W _ _ _ _ (fun x y hx => W0 x _ _ _ _ _ hx))))
  rw [nI_1, z_nm]
  refine Ok.b1 (t_see (by omega) he) (fun v3 _ => Ok.b1 (t_inN v3 65 86 (by decide) (by decide)) (fun v4 h4 => ?_))
  by_cases hc : v4 = 0 ∧ ¬ v3 = 90
  · exact Ok.j0 (Ok.ite (fun _ => Ok.ite (fun z => absurd z hc.2) (fun _ => W _ _ _ _ (fun x y hx => W0 x _ _ _ _ _ hx))) (fun z => absurd hc.1 z))
  refine Ok.k0 (z_rdm H V) ?_ (fun K hK => Ok.ite (fun z1 => Ok.ite (fun _ => hK) (fun z2 => absurd ⟨z1, z2⟩ hc)) (fun _ => hK))
  rw [nI_1, z_nm]
  refine Ok.ite (fun _ => ?_) (fun h90 => ?_)
  · refine Ok.k1 (fun v => ∃ k, v = nI k ∧ k < 2130 * (H 0 * V 0) + 2) (z_rdm H V) (fun v44 h44 => ?_) (fun K hK => Ok.ite (fun _ => hK _ ⟨0, rfl, by omega⟩) (fun _ => ?_))
    · obtain ⟨k, rfl, hk⟩ := h44
      exact Ok.k1 (fun _ => True) (z_rdm H V) (fun v45 _ => Ok.ret ⟨Or.inr rfl, fun _ => ⟨0, k, by omega, rfl, rfl, hk⟩⟩) (fun K hK => Ok.ite (fun _ => hK _ trivial) (fun _ => W _ _ _ _ (fun x y hx => Ok.ite (fun _ => Ok.ret ⟨Or.inl rfl, fun z => absurd rfl z⟩) (fun z => absurd hx z))))
    · refine Ok.b1 (t_sheets g (l := 0) (by omega)) (fun v48 h48 => ?_)
      rw [h48, z_sub1 (by omega)]
      exact hK _ ⟨_, rfl, by omega⟩
  · have h40 : ¬ v4 = 0 := fun z => hc ⟨z, h90⟩
    obtain ⟨j, rfl, j1, j2⟩ := h4.2 h40
    refine Ok.k1 (fun v => ∃ q, v = nI q ∧ q < 44) (z_rdm H V) (fun v6 h6 => ?_) (fun K hK => Ok.ite (fun _ => ?_) (fun _ => ?_))
    · obtain ⟨q, rfl, hq⟩ := h6
      rw [m_zonesOf q hq, q_b1_s]
      have hbz := z_bz_in q hq
      refine Ok.b4 (t_counts hN (p := p + 1 + 1) (by omega) he fa nu _) (fun v8 v9 v10 v11 h8 => Ok.ite (fun _ => Ok.ret ⟨Or.inl rfl, fun z => absurd rfl z⟩) (fun n8 => ?_))
      obtain ⟨-, ⟨p2, hp2, hp3⟩, h3⟩ := h8
      dsimp only at hp2 h3
      subst hp2
      have h3' := h3 n8
      rw [nI_toInt (by omega)] at h3'
      obtain ⟨u, u1, rfl, u3⟩ := z_nat (r := v11) (by omega)
      rw [z_sub1 (by omega), z_nm]
      refine Ok.s6 (t_read_L g hN he ky N 0 q (u - 1) p2 v10 (nI u) (by omega) (by omega) ⟨by omega, by rw [h00]; omega, by rw [h00, h01, Nat.div_one]; omega⟩) (fun v19 v20 v21 v22 v23 v24 h19 => ?_) (fun r hr => ⟨Or.inl hr, fun z => absurd hr z⟩)
      obtain ⟨i, r, c, a1, a2, a3, hi, hr, hc2⟩ := h19
      dsimp only at a1 a2 a3
      subst a1; subst a2; subst a3
      have hi5 : i < 5 := by omega
      have hps := g.2.2.pos i hi5
      have hv := g.2.2.hv hi5
      have erl : z_rl (H i) (V i) (1 + r) = z_bz (r / H i) * V i := by
        unfold z_rl
        rw [if_neg (by omega), show 1 + r - 1 = r by omega]
      rw [z_i 1, nI_add, m_keyOf g hi5 (by omega) (by rw [erl]; exact hc2), q_b1_s]
      have hend := z_rs_end (H := H i) (V := V i) (r := 1 + r) hps.1 (by omega)
      refine Ok.ret ⟨Or.inr rfl, fun _ => ⟨i, _, hi5, rfl, rfl, ?_⟩⟩
      rw [erl] at hend
      omega
    · rw [z_i 65, pk_sub j1, z_i 21, pk_sub (by omega)]
      exact hK _ ⟨_, rfl, by omega⟩
    · rw [z_i 22, nI_add, z_i 65, pk_sub (by omega)]
      exact hK _ ⟨_, rfl, by omega⟩
theorem t_counted (a b c d e : Int32) {x : Int32} (hx : x = 0 ∨ x = 1) (y : Int32) : Ok (f_M_counted a b c d e x y) (fun z => z.1 = x) := by
  unfold f_M_counted
  refine Ok.k1 (fun _ => True) (fun z => z.1 = x) (fun v1 _ => Ok.nm ?_) (fun K hK => Ok.ite (fun _ => hK _ trivial) (fun _ => hK _ trivial))
  refine Ok.k1 (fun _ => True) (fun z => z.1 = x) (fun v3 _ => Ok.nm ?_) (fun K hK => Ok.ite (fun _ => hK _ trivial) (fun _ => hK _ trivial))
  refine Ok.k1 (fun _ => True) (fun z => z.1 = x) (fun v5 _ => Ok.nm ?_) (fun K hK => Ok.k0 (fun z => z.1 = x) (hK _ trivial) (fun K2 h2 => Ok.ite (fun _ => Ok.ite (fun _ => h2) (fun _ => hK _ trivial)) (fun _ => h2)))
  exact Ok.k1 (fun _ => True) (fun z => z.1 = x) (fun v7 _ => Ok.nm (Ok.bo hx (Ok.ret rfl))) (fun K hK => Ok.k0 (fun z => z.1 = x) (hK _ trivial) (fun K2 h2 => Ok.ite (fun _ => Ok.ite (fun _ => h2) (fun _ => Ok.ite (fun _ => h2) (fun _ => hK _ trivial))) (fun _ => h2)))
theorem t_named (g : MOK R C H V cr cq dp wd za) (hN : 1000000 ≤ N) {t : Nat} (ht : t ≤ 200) (pa fa nu lv ky a b c d p q : Int32) : Ok (f_M_named N cr cq dp wd za tb (nI t) pa fa nu lv ky a b c d p q) (fun x => (z_txc 40 p t ∧ (0 ≤ q.toInt ∧ q.toInt ≤ 1) ∧ x.2.1 = nI 0) ∨ (¬ (z_txc 40 p t ∧ (0 ≤ q.toInt ∧ q.toInt ≤ 1)) ∧ x.2.1 = nI t)) := by
  unfold f_M_named
  refine Ok.b1 (t_in _ _ _) (fun v1 h1 => ?_)
  rw [z_toL, show (1 : Int64).toInt = 1 from rfl, show (40 : Int64).toInt = 40 from rfl] at h1
  refine Ok.ite (fun n1 => Ok.ret (Or.inr ⟨fun z => z_if0 h1 n1 ⟨z.1.1, z.1.2.1⟩, rfl⟩)) (fun n1 => Ok.ite (fun h3 => ?_) (fun h3 => ?_))
  · have := z_lt.mp h3
    rw [nI_toInt (by omega)] at this
    exact Ok.ret (Or.inr ⟨fun z => by have := z.1.2.2; omega, rfl⟩)
  · have hin := z_if1 h1 n1
    have h4 : p.toInt ≤ t := by
      rcases Int.lt_or_le (t : Int) p.toInt with z | z
      · exact absurd (z_lt.mpr (by rw [nI_toInt (by omega)]; exact z)) h3
      · exact z
    refine Ok.b1 (t_in _ _ _) (fun v2 h2 => ?_)
    rw [z_toL, show (0 : Int64).toInt = 0 from rfl, show (1 : Int64).toInt = 1 from rfl] at h2
    refine Ok.ite (fun n2 => Ok.ret (Or.inr ⟨fun z => z_if0 h2 n2 z.2, rfl⟩)) (fun n2 => ?_)
    have hq := z_if1 h2 n2
    obtain ⟨j, j1, rfl, j3⟩ := z_nat (r := p) (by omega)
    refine Ok.weak (Q := fun (x : Int32 × Int32 × Int32 × Int32 × Int32 × Int32 × Int32 × Int32 × Int32 × Int32 × Int32) => x.2.1 = nI 0) ?_ (fun x hx => Or.inl ⟨⟨hin.1, hin.2, h4⟩, hq, hx⟩)
    refine Ok.b6 (t_readsName g hN (p := 0) (e := j) (by omega) (by omega) 0 nu lv ky) (fun v3 v4 v5 v6 v7 v8 h => ?_)
    exact Ok.k1 (fun _ => True) (fun x => x.2.1 = nI 0) (fun v9 _ => Ok.b5 (t_counted _ _ _ _ _ h.1 _) (fun v10 v11 v12 v13 v14 _ => Ok.ite (fun _ => Ok.ret rfl) (fun _ => Ok.ite (fun _ => Ok.ret rfl) (fun _ => Ok.ret rfl)))) (fun K hK => Ok.ite (fun _ => hK _ trivial) (fun _ => hK _ trivial))
theorem t_blankFrom (hN : 1000000 ≤ N) {p e B : Nat} (hp : p ≤ B) (he : e ≤ B) (hB : B ≤ 150) : Ok (f_M_blankFrom N tb (nI p) (nI e)) (fun y => ∃ j, y = nI j ∧ j ≤ B) := by
  have L : ∀ n i, i ≤ B → B - i < n → Ok (f_M_blankFrom_L2 tb (nI e) n (nI i)) (fun y => ∃ j, y = nI j ∧ j ≤ B) := by
    intro n
    induction n with
    | zero => intro i _ h; omega
    | succ n ih =>
      intro i hi hn
      rw [f_M_blankFrom_L2]
      refine Ok.ite (fun _ => Ok.ret ⟨i, rfl, hi⟩) (fun hc => ?_)
      rw [nI_leI (by omega) (by omega)] at hc
      refine Ok.ain (by omega) (by decide) (Ok.ite (fun _ => Ok.ret ⟨i, rfl, hi⟩) (fun _ => ?_))
      rw [nI_1, z_nm]
      exact ih (i + 1) (by omega) (by omega)
  unfold f_M_blankFrom
  exact Ok.b1 (L N p hp (by omega)) (fun _ h => Ok.ret h)
theorem t_readsUpTo (g : MOK R C H V cr cq dp wd za) (hN : 1000000 ≤ N) {p e : Nat} (hp : p ≤ 300) (he : e ≤ 200) (fa nu lv ky ea : Int32) : Ok (f_M_readsUpTo N cr cq dp wd za tb (nI p) fa nu lv ky ea (nI e)) (fun y => (y.1 = 0 ∨ y.1 = 1) ∧ (¬ y.1 = 0 → z_hs H V y.2.2.2.2.1 y.2.2.2.2.2.1)) := by
  unfold f_M_readsUpTo
  refine Ok.b6 (t_readsName g hN hp he fa nu lv ky) (fun v1 v2 v3 v4 v5 v6 h => ?_)
  refine Ok.k1 (fun v => v = 0 ∨ v = 1) (fun y => (y.1 = 0 ∨ y.1 = 1) ∧ (¬ y.1 = 0 → z_hs H V y.2.2.2.2.1 y.2.2.2.2.2.1)) (fun v7 h7 => Ok.bo h7 (Ok.bo h.1 (Ok.ret h))) (fun K hK => Ok.k0 (fun y => (y.1 = 0 ∨ y.1 = 1) ∧ (¬ y.1 = 0 → z_hs H V y.2.2.2.2.1 y.2.2.2.2.2.1)) (hK _ (Or.inl rfl)) (fun K2 h2 => Ok.ite (fun _ => Ok.ite (fun _ => hK _ (Or.inr rfl)) (fun _ => h2)) (fun _ => h2)))
theorem t_answersOne (g : MOK R C H V cr cq dp wd za) (hN : 1000000 ≤ N) {p e : Nat} (hp : p ≤ 300) (he : e ≤ 200) (fa nu lv ky a b c d fb mb ea : Int32) (w : Int64) : Ok (f_M_answersOne N cr cq dp wd za tb (nI p) fa nu lv ky a b c d fb mb ea w (nI e)) (fun _ => True) := by
  unfold f_M_answersOne
  refine Ok.b7 (t_readsUpTo g hN hp he fa nu lv ky ea) (fun v1 v2 v3 v4 v5 v6 v7 h => Ok.b5 (t_counted _ _ _ _ _ h.1 _) (fun v8 v9 v10 v11 v12 h8 => Ok.ite (fun _ => Ok.t) (fun n8 => ?_)))
  dsimp only at h h8
  rw [h8] at n8
  obtain ⟨l, k, hl, rfl, rfl, hk⟩ := h.2 n8
  refine Ok.ite (fun _ => Ok.ite (fun _ => Ok.t) (fun h0 => ?_)) (fun _ => ?_)
  · rw [z_eq0 (by omega)] at h0
    rw [z_sub1 (by omega)]
    exact Ok.b1 (t_parentOf g (by omega) hl (t := l - 1) (by omega) hk) (fun _ _ => Ok.t)
  · refine Ok.k1 (fun v => ∃ i, v = nI i ∧ i < 4) (fun _ => True) (fun v13 h13 => ?_) (fun K hK => Ok.ite (fun _ => hK _ ⟨0, rfl, by omega⟩) (fun _ => Ok.ite (fun _ => hK _ ⟨1, rfl, by omega⟩) (fun _ => Ok.ite (fun _ => hK _ ⟨2, rfl, by omega⟩) (fun _ => hK _ ⟨3, rfl, by omega⟩))))
    obtain ⟨i, rfl, hi⟩ := h13
    have hb : Ok (f_M_besideFirst N dp wd za (nI l) (nI k) fb mb (nI i)) (fun _ => True) := by
      unfold f_M_besideFirst
      exact Ok.b2 (t_layB g (by omega) hl hk fb mb hi) (fun _ _ _ => Ok.ite (fun _ => Ok.t) (fun _ => Ok.t))
    exact Ok.b3 hb (fun _ _ _ _ => Ok.t)
theorem t_answersTwo (g : MOK R C H V cr cq dp wd za) (hN : 1000000 ≤ N) {p e : Nat} (hp : p ≤ 101) (he : e ≤ 100) (fa nu lv ky a b c d : Int32) (bl bo : Int64) (ed : Nat → Int64) (fb mb : Int32) (di qu : Nat → Int32) (qd x1 x2 x3 x4 x5 ea z : Int32) : Ok (f_M_answersTwo N cr cq dp wd za tb (nI p) fa nu lv ky a b c d bl bo ed fb mb di qu qd x1 x2 x3 x4 x5 ea z (nI e)) (fun _ => True) := by
  unfold f_M_answersTwo
  refine Ok.b1 (t_blankFrom hN (B := 101) hp (by omega) (by omega)) (fun v1 h1 => ?_)
  obtain ⟨j, rfl, hj⟩ := h1
  refine Ok.b7 (t_readsUpTo g hN (p := p) (e := j) (by omega) (by omega) fa nu lv ky ea) (fun v2 v3 v4 v5 v6 v7 v8 h2 => ?_)
  dsimp only at h2
  refine Ok.k3 (fun v9 _ _ => v9 = 0 ∨ (v9 = 1 ∧ z_hs H V v6 v7)) (fun _ => True) (fun v9 v10 v11 h9 => ?_) (fun K hK => Ok.ite (fun h0 => hK _ _ _ (Or.inl h0)) (fun n2 => Ok.ite (fun _ => Ok.b2 (t_wrong _ _ _) (fun v53 v54 h53 => hK _ _ _ (Or.inl h53))) (fun _ => hK _ _ _ (Or.inr ⟨h2.1.resolve_left n2, h2.2 n2⟩))))
  rw [nI_1, z_nm]
  refine Ok.k7 (fun v13 _ _ _ v17 v18 _ => v13 = 0 ∨ (v13 = 1 ∧ z_hs H V v6 v7 ∧ z_hs H V v17 v18)) (fun _ => True) (fun v13 v14 v15 v16 v17 v18 v19 h13 => ?_) (fun K hK => ?_)
  · refine Ok.b5 (t_counted _ _ _ _ _ (x := v13) (by rcases h13 with h | h; exact Or.inl h; exact Or.inr h.1) _) (fun v20 v21 v22 v23 v24 h20 => Ok.ite (fun _ => Ok.t) (fun n20 => Ok.ite (fun el => ?_) (fun _ => Ok.t)))
    dsimp only at h20
    rw [h20] at n20
    obtain ⟨-, g1, g2⟩ := h13.resolve_left n20
    subst el
    obtain ⟨l, k, k2, hl, rfl, rfl, rfl, hk, hk2⟩ := t_two g g1 g2
    exact Ok.ite (fun _ => Ok.b9 (t_betweenOf g hN hl hk hk2 bl bo ed x1 x2 x3 x4 x5) (fun _ _ _ _ _ _ _ _ _ _ => Ok.t)) (fun _ => Ok.b6 (t_stepsOf g hN hl hk hk2 fb mb di qu qd) (fun _ _ _ _ _ _ _ => Ok.t))
  · refine Ok.k6 (fun _ _ _ _ _ _ => True) (fun _ => True) (fun v40 v41 v42 v43 v44 v45 _ => hK _ _ _ _ _ _ _ (Or.inl rfl)) (fun K2 hK2 => Ok.ite (fun _ => hK2 _ _ _ _ _ _ trivial) (fun n9 => ?_))
    have h67 := h9.resolve_left n9
    refine Ok.b7 (t_readsUpTo g hN (p := j + 1) (e := e) (by omega) (by omega) _ _ _ _ _) (fun v46 v47 v48 v49 v50 v51 v52 h46 => Ok.ite (fun _ => hK2 _ _ _ _ _ _ trivial) (fun n46 => hK _ _ _ _ _ _ _ (Or.inr ⟨rfl, h67.2, h46.2 n46⟩)))
theorem t_wordTo (hN : 1000000 ≤ N) {e : Nat} (he : e ≤ 150) : Ok (f_M_wordTo N tb (nI e)) (fun _ => True) := by
  have L : ∀ n i (v : Int64), i ≤ 150 → 150 - i < n → Ok (f_M_wordTo_L5 tb (nI e) n v (nI i)) (fun _ => True) := by
    intro n
    induction n with
    | zero => intro i v _ h; omega
    | succ n ih =>
      intro i v hi hn
      rw [f_M_wordTo_L5]
      refine Ok.ite (fun _ => Ok.t) (fun hc => ?_)
      rw [nI_leI (by omega) (by omega)] at hc
      refine Ok.ain (by omega) (by decide) (Ok.b1 (t_in _ _ _) (fun _ _ => Ok.ite (fun _ => Ok.t) (fun _ => Ok.ite (fun _ => Ok.ain (by omega) (by decide) (Ok.nm ?_)) (fun _ => Ok.t))))
      rw [z_nm, nI_1]
      exact ih (i + 1) _ (by omega) (by omega)
  unfold f_M_wordTo
  exact Ok.nm (Ok.nm (Ok.s1 (L N 0 _ (by omega) (by omega)) (fun _ _ => Ok.t) (fun _ _ => trivial)))
theorem t_ask (g : MOK R C H V cr cq dp wd za) (hN : 1000000 ≤ N) {t : Nat} (ht : t ≤ 200) (pa fa nu lv ky a b c d : Int32) (bl bo : Int64) (ed : Nat → Int64) (fb mb : Int32) (di qu : Nat → Int32) (qd x1 x2 x3 x4 x5 ea p : Int32) : Ok (f_M_ask N cr cq dp wd za tb (nI t) pa fa nu lv ky a b c d bl bo ed fb mb di qu qd x1 x2 x3 x4 x5 ea p) (fun x => z_tl p t x.2.1) := by
  unfold f_M_ask
  refine Ok.b1 (t_in _ _ _) (fun v1 h1 => ?_)
  rw [z_toL, show (1 : Int64).toInt = 1 from rfl, show (100 : Int64).toInt = 100 from rfl] at h1
  refine Ok.ite (fun n1 => Ok.ret (Or.inr ⟨fun z => z_if0 h1 n1 ⟨z.1, z.2.1⟩, rfl⟩)) (fun n1 => Ok.ite (fun h3 => ?_) (fun h3 => ?_))
  rotate_left
  · exact Ok.ret (Or.inr ⟨fun z => h3 (z_le.mpr (by rw [nI_toInt (by omega)]; exact z.2.2)), rfl⟩)
  have hin := z_if1 h1 n1
  have h4 := z_le.mp h3
  rw [nI_toInt (by omega)] at h4
  obtain ⟨j, j1, rfl, j3⟩ := z_nat (r := p) (by omega)
  refine Ok.weak (Q := fun (x : Int32 × Int32 × Int32 × Int32 × Int32 × Int32 × Int32 × Int32 × Int32 × Int32 × Int32 × Int64 × Int64 × (Nat → Int64) × Int32 × Int32 × (Nat → Int32) × (Nat → Int32) × Int32 × Int32 × Int32 × Int32 × Int32 × Int32 × Int32) => x.2.1 = 0) ?_ (fun x hx => Or.inl ⟨⟨hin.1, hin.2, h4⟩, hx⟩)
  refine Ok.b1 (t_blankFrom hN (p := 0) (e := j) (B := 100) (by omega) (by omega) (by omega)) (fun v2 h2 => ?_)
  obtain ⟨i, rfl, hi⟩ := h2
  refine Ok.k2 (fun _ _ => True) (fun x => x.2.1 = 0) (fun v3 v4 _ => Ok.ite (fun _ => Ok.b5 (t_counted _ _ _ _ _ (Or.inl rfl) _) (fun _ _ _ _ _ _ => Ok.ret rfl)) (fun _ => Ok.b1 (t_wordTo hN (by omega)) (fun v5 _ => ?_))) (fun K hK => Ok.k1 (fun _ => True) (fun x => x.2.1 = 0) (fun v59 _ => hK _ _ trivial) (fun K2 h2 => Ok.ite (fun _ => h2 _ trivial) (fun _ => Ok.b2 (t_wrong _ _ _) (fun v60 v61 _ => Ok.ite (fun _ => hK _ _ trivial) (fun _ => h2 _ trivial)))))
  refine Ok.k1 (fun _ => True) (fun x => x.2.1 = 0) (fun v6 _ => ?_) (fun K hK => Ok.k0 (fun x => x.2.1 = 0) (hK _ trivial) (fun K2 h2 => Ok.ite (fun _ => h2) (fun _ => Ok.ite (fun _ => h2) (fun _ => hK _ trivial))))
  refine Ok.k1 (fun _ => True) (fun x => x.2.1 = 0) (fun v7 _ => ?_) (fun K hK => Ok.k0 (fun x => x.2.1 = 0) (hK _ trivial) (fun K2 h2 => Ok.ite (fun _ => h2) (fun _ => Ok.ite (fun _ => h2) (fun _ => Ok.ite (fun _ => h2) (fun _ => Ok.ite (fun _ => h2) (fun _ => Ok.ite (fun _ => h2) (fun _ => hK _ trivial)))))))
  refine Ok.k0 (fun x => x.2.1 = 0) ?_ (fun K hK => Ok.ite (fun _ => Ok.ite (fun _ => Ok.b2 (t_wrong _ _ _) (fun _ _ _ => Ok.b5 (t_counted _ _ _ _ _ (Or.inl rfl) _) (fun _ _ _ _ _ _ => Ok.ret rfl))) (fun _ => hK)) (fun _ => hK))
  rw [nI_1, z_nm]
  refine Ok.ite (fun _ => Ok.b13 (t_answersOne g hN (p := i + 1) (e := j) (by omega) (by omega) v4 nu lv ky a b c d fb mb 0 v5) (fun _ _ _ _ _ _ _ _ _ _ _ _ _ _ => Ok.ret rfl)) (fun _ => ?_)
  exact Ok.k1 (fun _ => True) (fun x => x.2.1 = 0) (fun v22 _ => Ok.b24 (t_answersTwo g hN (p := i + 1) (e := j) (by omega) (by omega) v4 nu lv ky a b c d bl bo ed fb mb di qu qd x1 x2 x3 x4 x5 0 v22) (fun _ _ _ _ _ _ _ _ _ _ _ _ _ _ _ _ _ _ _ _ _ _ _ _ _ => Ok.ret rfl)) (fun K hK => Ok.ite (fun _ => hK _ trivial) (fun _ => hK _ trivial))
end MA
