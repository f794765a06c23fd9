section
/-! the constructors in the law's worlds -/
set_option maxRecDepth 10000 in
theorem l_X_init (l : Launch) (D : va_G) (ci : Nat → ClassId) (A : Nat → Prop) (sa : Nat → Nat) (R : va_W) (a_x : Nat) : Met l yX10_init wsX10_init ({ frames := 3, cells := 139, slots := 2689, locals := 63 }) (va_Pc [.ref a_x] (q_N D ci A sa ((a_x, .inr (10, [.null, .null, .null, .null, .int 0, .null, .null, .null, .null, .null, .null, .null, .null, .null])) :: R))) (q_Q none (fun t2 => ∃ W3, XI ci a_x W3 0 (fun _ => 0) 0 0 l_sv0 (fun _ => l_sv0) ∧ q_O D A (W3 ++ R) t2) A) 139 2689 A := by
  obtain ⟨⟨o1, o2, o3, o4⟩, hf, g⟩ := s_multiply (N := 3000000) z_c2kg (Nat.le_of_ble_eq_true rfl) (fun _ => 0) (fun _ => 0) (fun _ => 0) (fun _ => 0)
  dsimp only at g
  refine (c_X_init l D ci A sa 3000000 R a_x o1 o2 o3 o4 hf).imp (fun _ _ h => h) (fun _ _ _ _ _ h => ⟨h.1, ?_, h.2.2⟩)
  obtain ⟨ad, q⟩ := h.2.1
  have e : q_pk 140 [0, 15, 16, 9, 2, 3, 4, 5, 6, 7, 8, 19, 31, 32, 17, 1, 20, 21, 23, 24, 25, 26, 27, 28, 22, 30, 33, 34, 18, 10, 11, 12, 13, 35, 14, 36, 44, 45, 46, 47, 37, 38, 39, 40, 41, 42, 43, 49, 57, 58, 59, 60, 50, 51, 52, 53, 54, 55, 56, 62, 70, 71, 72, 73, 63, 64, 65, 66, 67, 68, 69, 75, 83, 84, 85, 86, 76, 77, 78, 79, 80, 81, 82, 88, 96, 97, 98, 99, 89, 90, 91, 92, 93, 94, 95, 101, 109, 110, 111, 112, 102, 103, 104, 105, 106, 107, 108, 114, 122, 123, 124, 125, 115, 116, 117, 118, 119, 120, 121, 127, 135, 136, 137, 138, 128, 129, 130, 131, 132, 133, 134] ((a_x, .inr (10, [.ref (ad 0), .ref (ad 1), .ref (ad 8), .ref (ad 13), .int 0, .ref (ad 14), .ref (ad 16), .ref (ad 17), .ref (ad 18), .ref (ad 22), .ref (ad 29), .ref (ad 30), .ref (ad 32), .ref (ad 34)])) :: ((ad 0), .inr (0, [.ref (ad 1), .ref (ad 8), .int 0, .int 0, .int 0, .int 0])) :: ((ad 1), .inr (2, [.ref (ad 2), .ref (ad 3), .ref (ad 4), .ref (ad 5), .ref (ad 6), .ref (ad 7)])) :: ((ad 2), .inl (ci 0, 5, .inl q_c2)) :: ((ad 3), .inl (ci 0, 5, .inl q_c2)) :: ((ad 4), .inl (ci 0, 5, .inl o1)) :: ((ad 5), .inl (ci 0, 5, .inl o2)) :: ((ad 6), .inl (ci 0, 5, .inl o3)) :: ((ad 7), .inl (ci 0, 5, .inl o4)) :: ((ad 8), .inr (7, [.ref (ad 1), .ref (ad 9), .ref (ad 10), .ref (ad 11), .ref (ad 12), .int 0, .int 0, .int 0, .int 0])) :: ((ad 9), .inl (ci 0, 60, .inl (fun _ => 0))) :: ((ad 10), .inl (ci 0, 60, .inl (fun _ => 0))) :: ((ad 11), .inl (ci 0, 60, .inl (fun _ => 0))) :: ((ad 12), .inl (ci 0, 5, .inl (fun _ => 0))) :: ((ad 13), .inl (ci 3, 8, .inr (.inr (.inr (.inr (va_up (va_up (va_up (va_up (va_up (va_up (va_up (va_up (fun _ => none) (0 : Int32).toNatClampNeg (some (ad 35))) (1 : Int32).toNatClampNeg (some (ad 48))) (2 : Int32).toNatClampNeg (some (ad 61))) (3 : Int32).toNatClampNeg (some (ad 74))) (4 : Int32).toNatClampNeg (some (ad 87))) (5 : Int32).toNatClampNeg (some (ad 100))) (6 : Int32).toNatClampNeg (some (ad 113))) (7 : Int32).toNatClampNeg (some (ad 126)))))))) :: ((ad 14), .inr (8, [.ref (ad 15), .int 0])) :: ((ad 15), .inl (ci 0, 200, .inl (fun _ => 0))) :: ((ad 16), .inr (3, [.ref (ad 1), .ref (ad 14), .int 0, .int 0, .int 0, .int 0, .int 0, .int 0, .int 0])) :: ((ad 17), .inr (5, [.ref (ad 16), .ref (ad 14), .int (-1), .int 0, .int 0, .int 0, .int 0])) :: ((ad 18), .inr (6, [.ref (ad 1), .ref (ad 19), .ref (ad 20), .ref (ad 21), .int 0, .int 0, .int 0, .int 0, .int 0, .int 1, .int 1])) :: ((ad 19), .inl (ci 0, 4, .inl (fun _ => 0))) :: ((ad 20), .inl (ci 0, 4, .inl (fun _ => 0))) :: ((ad 21), .inl (ci 0, 4, .inl (fun _ => 0))) :: ((ad 22), .inr (9, [.ref (ad 25), .ref (ad 23), .ref (ad 24), .int 0])) :: ((ad 23), .inl (ci 0, 0, .inl (fun _ => 0))) :: ((ad 24), .inl (ci 0, 0, .inl (fun _ => 0))) :: ((ad 25), .inr (6, [.ref (ad 1), .ref (ad 26), .ref (ad 27), .ref (ad 28), .int 0, .int 0, .int 0, .int 0, .int 0, .int 1, .int 1])) :: ((ad 26), .inl (ci 0, 4, .inl (fun _ => 0))) :: ((ad 27), .inl (ci 0, 4, .inl (fun _ => 0))) :: ((ad 28), .inl (ci 0, 4, .inl (fun _ => 0))) :: ((ad 29), .inr (1, [.ref (ad 1), .int 0, .int 0, .int 0, .int 0])) :: ((ad 30), .inr (4, [.ref (ad 31), .int 0])) :: ((ad 31), .inl (ci 0, 40, .inl (fun _ => 0))) :: ((ad 32), .inr (4, [.ref (ad 33), .int 0])) :: ((ad 33), .inl (ci 0, 40, .inl (fun _ => 0))) :: ((ad 34), .inl (ci 0, 200, .inl (fun _ => 0))) :: ((ad 35), .inr (0, [.ref (ad 36), .ref (ad 43), .int 0, .int 0, .int 0, .int 0])) :: ((ad 36), .inr (2, [.ref (ad 37), .ref (ad 38), .ref (ad 39), .ref (ad 40), .ref (ad 41), .ref (ad 42)])) :: ((ad 37), .inl (ci 0, 5, .inl q_c2)) :: ((ad 38), .inl (ci 0, 5, .inl q_c2)) :: ((ad 39), .inl (ci 0, 5, .inl o1)) :: ((ad 40), .inl (ci 0, 5, .inl o2)) :: ((ad 41), .inl (ci 0, 5, .inl o3)) :: ((ad 42), .inl (ci 0, 5, .inl o4)) :: ((ad 43), .inr (7, [.ref (ad 36), .ref (ad 44), .ref (ad 45), .ref (ad 46), .ref (ad 47), .int 0, .int 0, .int 0, .int 0])) :: ((ad 44), .inl (ci 0, 60, .inl (fun _ => 0))) :: ((ad 45), .inl (ci 0, 60, .inl (fun _ => 0))) :: ((ad 46), .inl (ci 0, 60, .inl (fun _ => 0))) :: ((ad 47), .inl (ci 0, 5, .inl (fun _ => 0))) :: ((ad 48), .inr (0, [.ref (ad 49), .ref (ad 56), .int 0, .int 0, .int 0, .int 0])) :: ((ad 49), .inr (2, [.ref (ad 50), .ref (ad 51), .ref (ad 52), .ref (ad 53), .ref (ad 54), .ref (ad 55)])) :: ((ad 50), .inl (ci 0, 5, .inl q_c2)) :: ((ad 51), .inl (ci 0, 5, .inl q_c2)) :: ((ad 52), .inl (ci 0, 5, .inl o1)) :: ((ad 53), .inl (ci 0, 5, .inl o2)) :: ((ad 54), .inl (ci 0, 5, .inl o3)) :: ((ad 55), .inl (ci 0, 5, .inl o4)) :: ((ad 56), .inr (7, [.ref (ad 49), .ref (ad 57), .ref (ad 58), .ref (ad 59), .ref (ad 60), .int 0, .int 0, .int 0, .int 0])) :: ((ad 57), .inl (ci 0, 60, .inl (fun _ => 0))) :: ((ad 58), .inl (ci 0, 60, .inl (fun _ => 0))) :: ((ad 59), .inl (ci 0, 60, .inl (fun _ => 0))) :: ((ad 60), .inl (ci 0, 5, .inl (fun _ => 0))) :: ((ad 61), .inr (0, [.ref (ad 62), .ref (ad 69), .int 0, .int 0, .int 0, .int 0])) :: ((ad 62), .inr (2, [.ref (ad 63), .ref (ad 64), .ref (ad 65), .ref (ad 66), .ref (ad 67), .ref (ad 68)])) :: ((ad 63), .inl (ci 0, 5, .inl q_c2)) :: ((ad 64), .inl (ci 0, 5, .inl q_c2)) :: ((ad 65), .inl (ci 0, 5, .inl o1)) :: ((ad 66), .inl (ci 0, 5, .inl o2)) :: ((ad 67), .inl (ci 0, 5, .inl o3)) :: ((ad 68), .inl (ci 0, 5, .inl o4)) :: ((ad 69), .inr (7, [.ref (ad 62), .ref (ad 70), .ref (ad 71), .ref (ad 72), .ref (ad 73), .int 0, .int 0, .int 0, .int 0])) :: ((ad 70), .inl (ci 0, 60, .inl (fun _ => 0))) :: ((ad 71), .inl (ci 0, 60, .inl (fun _ => 0))) :: ((ad 72), .inl (ci 0, 60, .inl (fun _ => 0))) :: ((ad 73), .inl (ci 0, 5, .inl (fun _ => 0))) :: ((ad 74), .inr (0, [.ref (ad 75), .ref (ad 82), .int 0, .int 0, .int 0, .int 0])) :: ((ad 75), .inr (2, [.ref (ad 76), .ref (ad 77), .ref (ad 78), .ref (ad 79), .ref (ad 80), .ref (ad 81)])) :: ((ad 76), .inl (ci 0, 5, .inl q_c2)) :: ((ad 77), .inl (ci 0, 5, .inl q_c2)) :: ((ad 78), .inl (ci 0, 5, .inl o1)) :: ((ad 79), .inl (ci 0, 5, .inl o2)) :: ((ad 80), .inl (ci 0, 5, .inl o3)) :: ((ad 81), .inl (ci 0, 5, .inl o4)) :: ((ad 82), .inr (7, [.ref (ad 75), .ref (ad 83), .ref (ad 84), .ref (ad 85), .ref (ad 86), .int 0, .int 0, .int 0, .int 0])) :: ((ad 83), .inl (ci 0, 60, .inl (fun _ => 0))) :: ((ad 84), .inl (ci 0, 60, .inl (fun _ => 0))) :: ((ad 85), .inl (ci 0, 60, .inl (fun _ => 0))) :: ((ad 86), .inl (ci 0, 5, .inl (fun _ => 0))) :: ((ad 87), .inr (0, [.ref (ad 88), .ref (ad 95), .int 0, .int 0, .int 0, .int 0])) :: ((ad 88), .inr (2, [.ref (ad 89), .ref (ad 90), .ref (ad 91), .ref (ad 92), .ref (ad 93), .ref (ad 94)])) :: ((ad 89), .inl (ci 0, 5, .inl q_c2)) :: ((ad 90), .inl (ci 0, 5, .inl q_c2)) :: ((ad 91), .inl (ci 0, 5, .inl o1)) :: ((ad 92), .inl (ci 0, 5, .inl o2)) :: ((ad 93), .inl (ci 0, 5, .inl o3)) :: ((ad 94), .inl (ci 0, 5, .inl o4)) :: ((ad 95), .inr (7, [.ref (ad 88), .ref (ad 96), .ref (ad 97), .ref (ad 98), .ref (ad 99), .int 0, .int 0, .int 0, .int 0])) :: ((ad 96), .inl (ci 0, 60, .inl (fun _ => 0))) :: ((ad 97), .inl (ci 0, 60, .inl (fun _ => 0))) :: ((ad 98), .inl (ci 0, 60, .inl (fun _ => 0))) :: ((ad 99), .inl (ci 0, 5, .inl (fun _ => 0))) :: ((ad 100), .inr (0, [.ref (ad 101), .ref (ad 108), .int 0, .int 0, .int 0, .int 0])) :: ((ad 101), .inr (2, [.ref (ad 102), .ref (ad 103), .ref (ad 104), .ref (ad 105), .ref (ad 106), .ref (ad 107)])) :: ((ad 102), .inl (ci 0, 5, .inl q_c2)) :: ((ad 103), .inl (ci 0, 5, .inl q_c2)) :: ((ad 104), .inl (ci 0, 5, .inl o1)) :: ((ad 105), .inl (ci 0, 5, .inl o2)) :: ((ad 106), .inl (ci 0, 5, .inl o3)) :: ((ad 107), .inl (ci 0, 5, .inl o4)) :: ((ad 108), .inr (7, [.ref (ad 101), .ref (ad 109), .ref (ad 110), .ref (ad 111), .ref (ad 112), .int 0, .int 0, .int 0, .int 0])) :: ((ad 109), .inl (ci 0, 60, .inl (fun _ => 0))) :: ((ad 110), .inl (ci 0, 60, .inl (fun _ => 0))) :: ((ad 111), .inl (ci 0, 60, .inl (fun _ => 0))) :: ((ad 112), .inl (ci 0, 5, .inl (fun _ => 0))) :: ((ad 113), .inr (0, [.ref (ad 114), .ref (ad 121), .int 0, .int 0, .int 0, .int 0])) :: ((ad 114), .inr (2, [.ref (ad 115), .ref (ad 116), .ref (ad 117), .ref (ad 118), .ref (ad 119), .ref (ad 120)])) :: ((ad 115), .inl (ci 0, 5, .inl q_c2)) :: ((ad 116), .inl (ci 0, 5, .inl q_c2)) :: ((ad 117), .inl (ci 0, 5, .inl o1)) :: ((ad 118), .inl (ci 0, 5, .inl o2)) :: ((ad 119), .inl (ci 0, 5, .inl o3)) :: ((ad 120), .inl (ci 0, 5, .inl o4)) :: ((ad 121), .inr (7, [.ref (ad 114), .ref (ad 122), .ref (ad 123), .ref (ad 124), .ref (ad 125), .int 0, .int 0, .int 0, .int 0])) :: ((ad 122), .inl (ci 0, 60, .inl (fun _ => 0))) :: ((ad 123), .inl (ci 0, 60, .inl (fun _ => 0))) :: ((ad 124), .inl (ci 0, 60, .inl (fun _ => 0))) :: ((ad 125), .inl (ci 0, 5, .inl (fun _ => 0))) :: ((ad 126), .inr (0, [.ref (ad 127), .ref (ad 134), .int 0, .int 0, .int 0, .int 0])) :: ((ad 127), .inr (2, [.ref (ad 128), .ref (ad 129), .ref (ad 130), .ref (ad 131), .ref (ad 132), .ref (ad 133)])) :: ((ad 128), .inl (ci 0, 5, .inl q_c2)) :: ((ad 129), .inl (ci 0, 5, .inl q_c2)) :: ((ad 130), .inl (ci 0, 5, .inl o1)) :: ((ad 131), .inl (ci 0, 5, .inl o2)) :: ((ad 132), .inl (ci 0, 5, .inl o3)) :: ((ad 133), .inl (ci 0, 5, .inl o4)) :: ((ad 134), .inr (7, [.ref (ad 127), .ref (ad 135), .ref (ad 136), .ref (ad 137), .ref (ad 138), .int 0, .int 0, .int 0, .int 0])) :: ((ad 135), .inl (ci 0, 60, .inl (fun _ => 0))) :: ((ad 136), .inl (ci 0, 60, .inl (fun _ => 0))) :: ((ad 137), .inl (ci 0, 60, .inl (fun _ => 0))) :: ((ad 138), .inl (ci 0, 5, .inl (fun _ => 0))) :: R) = XW ci a_x 0 (fun i => ad ([0, 1, 8, 13, 14, 16, 17, 18, 22, 29, 30, 32, 34, 15, 9, 10, 11, 12, 2, 3, 4, 5, 6, 7, 19, 20, 21, 31, 25, 23, 24, 26, 27, 28, 33].getD i 0)) (fun i => ([0, 0, 0, 0, 0, 0, 0, 0, 0, 0, 0, 1, 1, 0, 0, 0, 0, 0, 0, 0, 0, 0, 0, 0, 0, 0, 0, 0, 0, 0, 0, 1, 1, 0, 0, 0, 0, 0, (-1), 0, 0, 0, 0] : List Int32).getD i 0) (fun i => ([(fun _ => 0), q_c2, q_c2, o1, o2, o3, o4, (fun _ => 0), (fun _ => 0), (fun _ => 0), (fun _ => 0), (fun _ => 0), (fun _ => 0), (fun _ => 0), (fun _ => 0), (fun _ => 0), (fun _ => 0), (fun _ => 0), (fun _ => 0), (fun _ => 0), (fun _ => 0)] : List (Nat → Int32)).getD i (fun _ => 0)) (va_up (va_up (va_up (va_up (va_up (va_up (va_up (va_up (fun _ => none) (0 : Int32).toNatClampNeg (some (ad 35))) (1 : Int32).toNatClampNeg (some (ad 48))) (2 : Int32).toNatClampNeg (some (ad 61))) (3 : Int32).toNatClampNeg (some (ad 74))) (4 : Int32).toNatClampNeg (some (ad 87))) (5 : Int32).toNatClampNeg (some (ad 100))) (6 : Int32).toNatClampNeg (some (ad 113))) (7 : Int32).toNatClampNeg (some (ad 126))) (lX_ka ci (fun k i => ad (35 + 13 * k + [0, 8, 9, 10, 11, 12, 1, 2, 3, 4, 5, 6, 7].getD i 0)) (fun _ _ => 0) (fun _ => l_f9 (fun _ => 0) (fun _ => 0) (fun _ => 0) q_c2 q_c2 o1 o2 o3 o4)) ++ R := rfl
  refine ⟨XW ci a_x 0 (fun i => ad ([0, 1, 8, 13, 14, 16, 17, 18, 22, 29, 30, 32, 34, 15, 9, 10, 11, 12, 2, 3, 4, 5, 6, 7, 19, 20, 21, 31, 25, 23, 24, 26, 27, 28, 33].getD i 0)) (fun i => ([0, 0, 0, 0, 0, 0, 0, 0, 0, 0, 0, 1, 1, 0, 0, 0, 0, 0, 0, 0, 0, 0, 0, 0, 0, 0, 0, 0, 0, 0, 0, 1, 1, 0, 0, 0, 0, 0, (-1), 0, 0, 0, 0] : List Int32).getD i 0) (fun i => ([(fun _ => 0), q_c2, q_c2, o1, o2, o3, o4, (fun _ => 0), (fun _ => 0), (fun _ => 0), (fun _ => 0), (fun _ => 0), (fun _ => 0), (fun _ => 0), (fun _ => 0), (fun _ => 0), (fun _ => 0), (fun _ => 0), (fun _ => 0), (fun _ => 0), (fun _ => 0)] : List (Nat → Int32)).getD i (fun _ => 0)) (va_up (va_up (va_up (va_up (va_up (va_up (va_up (va_up (fun _ => none) (0 : Int32).toNatClampNeg (some (ad 35))) (1 : Int32).toNatClampNeg (some (ad 48))) (2 : Int32).toNatClampNeg (some (ad 61))) (3 : Int32).toNatClampNeg (some (ad 74))) (4 : Int32).toNatClampNeg (some (ad 87))) (5 : Int32).toNatClampNeg (some (ad 100))) (6 : Int32).toNatClampNeg (some (ad 113))) (7 : Int32).toNatClampNeg (some (ad 126))) (lX_ka ci (fun k i => ad (35 + 13 * k + [0, 8, 9, 10, 11, 12, 1, 2, 3, 4, 5, 6, 7].getD i 0)) (fun _ _ => 0) (fun _ => l_f9 (fun _ => 0) (fun _ => 0) (fun _ => 0) q_c2 q_c2 o1 o2 o3 o4)), ⟨(fun i => ad ([0, 1, 8, 13, 14, 16, 17, 18, 22, 29, 30, 32, 34, 15, 9, 10, 11, 12, 2, 3, 4, 5, 6, 7, 19, 20, 21, 31, 25, 23, 24, 26, 27, 28, 33].getD i 0)), (fun i => ([0, 0, 0, 0, 0, 0, 0, 0, 0, 0, 0, 1, 1, 0, 0, 0, 0, 0, 0, 0, 0, 0, 0, 0, 0, 0, 0, 0, 0, 0, 0, 1, 1, 0, 0, 0, 0, 0, (-1), 0, 0, 0, 0] : List Int32).getD i 0), (fun i => ([(fun _ => 0), q_c2, q_c2, o1, o2, o3, o4, (fun _ => 0), (fun _ => 0), (fun _ => 0), (fun _ => 0), (fun _ => 0), (fun _ => 0), (fun _ => 0), (fun _ => 0), (fun _ => 0), (fun _ => 0), (fun _ => 0), (fun _ => 0), (fun _ => 0), (fun _ => 0)] : List (Nat → Int32)).getD i (fun _ => 0)), (va_up (va_up (va_up (va_up (va_up (va_up (va_up (va_up (fun _ => none) (0 : Int32).toNatClampNeg (some (ad 35))) (1 : Int32).toNatClampNeg (some (ad 48))) (2 : Int32).toNatClampNeg (some (ad 61))) (3 : Int32).toNatClampNeg (some (ad 74))) (4 : Int32).toNatClampNeg (some (ad 87))) (5 : Int32).toNatClampNeg (some (ad 100))) (6 : Int32).toNatClampNeg (some (ad 113))) (7 : Int32).toNatClampNeg (some (ad 126))), (fun k i => ad (35 + 13 * k + [0, 8, 9, 10, 11, 12, 1, 2, 3, 4, 5, 6, 7].getD i 0)), (fun _ _ => 0), (fun _ => l_f9 (fun _ => 0) (fun _ => 0) (fun _ => 0) q_c2 q_c2 o1 o2 o3 o4), rfl, ⟨by omega, rfl, fun i hi => absurd hi (by omega)⟩, ⟨Or.inl rfl, by omega⟩, g, l_sv0X, ⟨rfl, rfl, rfl, rfl⟩, ⟨by omega, rfl, fun j hj => absurd hj (by omega)⟩, fun j hj => ?_⟩, q_pk_P q.1 e, q_pk_D q.2 e ⟨rfl, rfl, rfl⟩⟩
  rcases (show j = 0 ∨ j = 1 ∨ j = 2 ∨ j = 3 ∨ j = 4 ∨ j = 5 ∨ j = 6 ∨ j = 7 by omega) with rfl | rfl | rfl | rfl | rfl | rfl | rfl | rfl <;> rfl
theorem l_M_init (l : Launch) (D : va_G) (ci : Nat → ClassId) (A : Nat → Prop) (sa : Nat → Nat) (R : va_W) (a_m : Nat) : Met l yX11_init wsX11_init ({ frames := 1, cells := 17, slots := 42249, locals := 21 }) (va_Pc [.ref a_m] (q_N D ci A sa ((a_m, .inr (11, (.null :: .null :: .null :: .null :: .null :: .null :: .null :: .null :: .int 0 :: .int 0 :: .int 0 :: .int 0 :: .int 0 :: .int 0 :: .int 0 :: .int 0 :: .int 0 :: .int 0 :: .long 0 :: .long 0 :: .null :: .int 0 :: .int 0 :: .null :: .null :: .int 0 :: .int 0 :: .int 0 :: .int 0 :: .int 0 :: .int 0 :: .int 0 :: .int 0 :: .int 0 :: .null :: .null :: .null :: .int 0 :: .null :: .null :: .int 0 :: .null :: []))) :: R))) (q_Q none (fun t2 => ∃ W3, MI ci a_m W3 0 (fun _ => 0) 0 l_sv0 (fun _ => l_sv0) ∧ q_O D A (W3 ++ R) t2) A) 17 42249 A := by
  obtain ⟨⟨o1, o2, o3, o4, o5⟩, hf, g⟩ := t_init (N := 3000000) (Nat.le_of_ble_eq_true rfl)
  dsimp only at g
  refine (c_M_init l D ci A sa 3000000 R a_m o1 o2 o3 o4 o5 hf).imp (fun _ _ h => h) (fun _ _ _ _ _ h => ⟨h.1, ?_, h.2.2⟩)
  obtain ⟨ad, q⟩ := h.2.1
  have e : q_pk 18 [0, 8, 1, 2, 3, 4, 5, 6, 9, 10, 11, 7, 12, 13, 14, 15, 16, 17] ((a_m, .inr (11, (.ref (ad 0) :: .ref (ad 1) :: .ref (ad 2) :: .ref (ad 3) :: .ref (ad 4) :: .ref (ad 5) :: .ref (ad 6) :: .ref (ad 7) :: .int 0 :: .int 0 :: .int 0 :: .int 0 :: .int 0 :: .int 0 :: .int 0 :: .int 0 :: .int 0 :: .int 0 :: .long 0 :: .long 0 :: .ref (ad 8) :: .int 0 :: .int 0 :: .ref (ad 9) :: .ref (ad 10) :: .int 0 :: .int 0 :: .int 0 :: .int 0 :: .int 0 :: .int 0 :: .int 0 :: .int 0 :: .int 0 :: .ref (ad 11) :: .ref (ad 12) :: .ref (ad 13) :: .int 0 :: .ref (ad 14) :: .ref (ad 15) :: .int 0 :: .ref (ad 16) :: []))) :: ((ad 0), .inl (ci 0, 5, .inl o1)) :: ((ad 1), .inl (ci 0, 5, .inl o2)) :: ((ad 2), .inl (ci 0, 5, .inl o3)) :: ((ad 3), .inl (ci 0, 5, .inl o4)) :: ((ad 4), .inl (ci 0, 45, .inl o5)) :: ((ad 5), .inl (ci 0, 20, .inl (fun _ => 0))) :: ((ad 6), .inl (ci 0, 20, .inl (fun _ => 0))) :: ((ad 7), .inl (ci 2, 200, .inl (fun _ => 0))) :: ((ad 8), .inl (ci 1, 4, .inr (.inl (fun _ => 0)))) :: ((ad 9), .inl (ci 0, 20000, .inl (fun _ => 0))) :: ((ad 10), .inl (ci 0, 20000, .inl (fun _ => 0))) :: ((ad 11), .inl (ci 0, 60, .inl (fun _ => 0))) :: ((ad 12), .inl (ci 0, 60, .inl (fun _ => 0))) :: ((ad 13), .inl (ci 0, 60, .inl (fun _ => 0))) :: ((ad 14), .inl (ci 0, 200, .inl (fun _ => 0))) :: ((ad 15), .inl (ci 0, 1552, .inl (fun _ => 0))) :: ((ad 16), .inl (ci 0, 8, .inl (fun _ => 0))) :: R) = MW ci a_m (fun i => ad ([0, 1, 2, 3, 4, 5, 6, 7, 8, 9, 10, 11, 12, 13, 14, 15, 16].getD i 0)) (fun i => ([0, 0, 0, 0, 0, 0, 0, 0, 0, 0, 0, 0, 0, 0, 0, 0, 0, 0, 0, 0, 0, 0, 0] : List Int32).getD i 0) (fun i => ([0, 0] : List Int64).getD i 0) (fun i => ([(fun _ => 0), o1, o2, o3, o4, o5, (fun _ => 0), (fun _ => 0), (fun _ => 0), (fun _ => 0), (fun _ => 0), (fun _ => 0), (fun _ => 0), (fun _ => 0), (fun _ => 0), (fun _ => 0)] : List (Nat → Int32)).getD i (fun _ => 0)) (fun i => ([(fun _ => 0)] : List (Nat → Int64)).getD i (fun _ => 0)) ++ R := rfl
  exact ⟨MW ci a_m (fun i => ad ([0, 1, 2, 3, 4, 5, 6, 7, 8, 9, 10, 11, 12, 13, 14, 15, 16].getD i 0)) (fun i => ([0, 0, 0, 0, 0, 0, 0, 0, 0, 0, 0, 0, 0, 0, 0, 0, 0, 0, 0, 0, 0, 0, 0] : List Int32).getD i 0) (fun i => ([0, 0] : List Int64).getD i 0) (fun i => ([(fun _ => 0), o1, o2, o3, o4, o5, (fun _ => 0), (fun _ => 0), (fun _ => 0), (fun _ => 0), (fun _ => 0), (fun _ => 0), (fun _ => 0), (fun _ => 0), (fun _ => 0), (fun _ => 0)] : List (Nat → Int32)).getD i (fun _ => 0)) (fun i => ([(fun _ => 0)] : List (Nat → Int64)).getD i (fun _ => 0)), ⟨(fun i => ad ([0, 1, 2, 3, 4, 5, 6, 7, 8, 9, 10, 11, 12, 13, 14, 15, 16].getD i 0)), (fun i => ([0, 0, 0, 0, 0, 0, 0, 0, 0, 0, 0, 0, 0, 0, 0, 0, 0, 0, 0, 0, 0, 0, 0] : List Int32).getD i 0), (fun i => ([0, 0] : List Int64).getD i 0), (fun i => ([(fun _ => 0), o1, o2, o3, o4, o5, (fun _ => 0), (fun _ => 0), (fun _ => 0), (fun _ => 0), (fun _ => 0), (fun _ => 0), (fun _ => 0), (fun _ => 0), (fun _ => 0), (fun _ => 0)] : List (Nat → Int32)).getD i (fun _ => 0)), (fun i => ([(fun _ => 0)] : List (Nat → Int64)).getD i (fun _ => 0)), rfl, ⟨by omega, rfl, fun i hi => absurd hi (by omega)⟩, g, l_sv0X, ⟨rfl, rfl, rfl, rfl⟩, ⟨by omega, rfl, fun j hj => absurd hj (by omega)⟩, (by show (0 : Int) ≤ (0 : Int32).toInt; decide)⟩, q_pk_P q.1 e, q_pk_D q.2 e ⟨rfl, rfl, rfl⟩⟩
end
section
/-! the law's loop -/
theorem l_and63 (x : Int32) : ∃ k, k < 64 ∧ x &&& nI 63 = nI k := by
  refine ⟨(x &&& nI 63).toBitVec.toNat, ?_, ?_⟩
  · rw [Int32.toBitVec_and, BitVec.toNat_and]
    exact Nat.lt_of_le_of_lt Nat.and_le_right (by decide)
  · apply Int32.toBitVec_inj.mp
    show (x &&& nI 63).toBitVec = BitVec.ofNat 32 (x &&& nI 63).toBitVec.toNat
    rw [BitVec.ofNat_toNat, BitVec.setWidth_eq]
theorem l_in0 {i L : Nat} (h : i + 8 ≤ L) (hL : L ≤ 4096) : vp_in (nI i) L := by
  show ¬ (nI i < 0 ∨ L ≤ (nI i).toNatClampNeg)
  have e : (nI i).toNatClampNeg = i := nI_clamp (by omega)
  rw [e]
  rintro (z | z)
  · exact z_lt0 (by omega) z
  · omega
theorem l_le8 {i L : Nat} (hL : L ≤ 4096) (hi : i ≤ 5000) (h : ¬ nI L - nI 8 < nI i) : i + 8 ≤ L := by
  have h1 : ¬ (nI L - nI 8).toInt < (nI i).toInt := fun z => h (z_lt.mpr z)
  rw [Int32.toInt_sub, nI_toInt (by omega), nI_toInt (by omega), nI_toInt (by omega), Int.bmod_eq_of_le (by omega) (by omega)] at h1
  omega
theorem law_switch (p : Program) (l : Launch) (e : Env) (s : State) (m : MethodId) (below : List Frame) (meth : Method) (c : Code) (b L : Nat) (xs : Nat → Int32) (D : va_G) (ci : Nat → ClassId) (sa : Nat → Nat) {a_x a_m i : Nat} {ls : Array Slot} (C0 : lL_C p l e s m below meth c b L xs D ci sa) (hi : i + 8 ≤ L) (hl : lv_has ls 4 [(3, .int (nI i)), (2, .ref a_m), (1, .ref a_x), (0, .ref b)]) (hgo : lL_go p l e s m below meth c b L xs D ci sa a_x a_m ls 2146) (k : Nat) (hk : k < 44) : ∃ off, (#[191, 254, 297, 330, 373, 416, 449, 492, 535, 578, 621, 664, 717, 770, 823, 866, 909, 952, 1005, 1048, 1091, 1134, 1177, 1252, 1327, 1370, 1413, 1456, 1519, 1542, 1585, 1618, 1651, 1694, 1781, 1824, 1857, 1890, 1903, 1978, 2021, 2064, 2087, 2100] : Array Int)[k]? = some off ∧ ∃ tgt : Nat, (33 : Int) + off = (tgt : Int) ∧ lL_go p l e s m below meth c b L xs D ci sa a_x a_m ls tgt := by
  rcases (show k = 0 ∨ k = 1 ∨ k = 2 ∨ k = 3 ∨ k = 4 ∨ k = 5 ∨ k = 6 ∨ k = 7 ∨ k = 8 ∨ k = 9 ∨ k = 10 ∨ k = 11 ∨ k = 12 ∨ k = 13 ∨ k = 14 ∨ k = 15 ∨ k = 16 ∨ k = 17 ∨ k = 18 ∨ k = 19 ∨ k = 20 ∨ k = 21 ∨ k = 22 ∨ k = 23 ∨ k = 24 ∨ k = 25 ∨ k = 26 ∨ k = 27 ∨ k = 28 ∨ k = 29 ∨ k = 30 ∨ k = 31 ∨ k = 32 ∨ k = 33 ∨ k = 34 ∨ k = 35 ∨ k = 36 ∨ k = 37 ∨ k = 38 ∨ k = 39 ∨ k = 40 ∨ k = 41 ∨ k = 42 ∨ k = 43 by omega) with rfl | rfl | rfl | rfl | rfl | rfl | rfl | rfl | rfl | rfl | rfl | rfl | rfl | rfl | rfl | rfl | rfl | rfl | rfl | rfl | rfl | rfl | rfl | rfl | rfl | rfl | rfl | rfl | rfl | rfl | rfl | rfl | rfl | rfl | rfl | rfl | rfl | rfl | rfl | rfl | rfl | rfl | rfl | rfl
  · exact ⟨191, rfl, 224, rfl, law_0 p l e s m below meth c b L xs D ci sa C0 hi hl hgo⟩
  · exact ⟨254, rfl, 287, rfl, law_1 p l e s m below meth c b L xs D ci sa C0 hi hl hgo⟩
  · exact ⟨297, rfl, 330, rfl, law_2 p l e s m below meth c b L xs D ci sa C0 hi hl hgo⟩
  · exact ⟨330, rfl, 363, rfl, law_3 p l e s m below meth c b L xs D ci sa C0 hi hl hgo⟩
  · exact ⟨373, rfl, 406, rfl, law_4 p l e s m below meth c b L xs D ci sa C0 hi hl hgo⟩
  · exact ⟨416, rfl, 449, rfl, law_5 p l e s m below meth c b L xs D ci sa C0 hi hl hgo⟩
  · exact ⟨449, rfl, 482, rfl, law_6 p l e s m below meth c b L xs D ci sa C0 hi hl hgo⟩
  · exact ⟨492, rfl, 525, rfl, law_7 p l e s m below meth c b L xs D ci sa C0 hi hl hgo⟩
  · exact ⟨535, rfl, 568, rfl, law_8 p l e s m below meth c b L xs D ci sa C0 hi hl hgo⟩
  · exact ⟨578, rfl, 611, rfl, law_9 p l e s m below meth c b L xs D ci sa C0 hi hl hgo⟩
  · exact ⟨621, rfl, 654, rfl, law_10 p l e s m below meth c b L xs D ci sa C0 hi hl hgo⟩
  · exact ⟨664, rfl, 697, rfl, law_11 p l e s m below meth c b L xs D ci sa C0 hi hl hgo⟩
  · exact ⟨717, rfl, 750, rfl, law_12 p l e s m below meth c b L xs D ci sa C0 hi hl hgo⟩
  · exact ⟨770, rfl, 803, rfl, law_13 p l e s m below meth c b L xs D ci sa C0 hi hl hgo⟩
  · exact ⟨823, rfl, 856, rfl, law_14 p l e s m below meth c b L xs D ci sa C0 hi hl hgo⟩
  · exact ⟨866, rfl, 899, rfl, law_15 p l e s m below meth c b L xs D ci sa C0 hi hl hgo⟩
  · exact ⟨909, rfl, 942, rfl, law_16 p l e s m below meth c b L xs D ci sa C0 hi hl hgo⟩
  · exact ⟨952, rfl, 985, rfl, law_17 p l e s m below meth c b L xs D ci sa C0 hi hl hgo⟩
  · exact ⟨1005, rfl, 1038, rfl, law_18 p l e s m below meth c b L xs D ci sa C0 hi hl hgo⟩
  · exact ⟨1048, rfl, 1081, rfl, law_19 p l e s m below meth c b L xs D ci sa C0 hi hl hgo⟩
  · exact ⟨1091, rfl, 1124, rfl, law_20 p l e s m below meth c b L xs D ci sa C0 hi hl hgo⟩
  · exact ⟨1134, rfl, 1167, rfl, law_21 p l e s m below meth c b L xs D ci sa C0 hi hl hgo⟩
  · exact ⟨1177, rfl, 1210, rfl, law_22 p l e s m below meth c b L xs D ci sa C0 hi hl hgo⟩
  · exact ⟨1252, rfl, 1285, rfl, law_23 p l e s m below meth c b L xs D ci sa C0 hi hl hgo⟩
  · exact ⟨1327, rfl, 1360, rfl, law_24 p l e s m below meth c b L xs D ci sa C0 hi hl hgo⟩
  · exact ⟨1370, rfl, 1403, rfl, law_25 p l e s m below meth c b L xs D ci sa C0 hi hl hgo⟩
  · exact ⟨1413, rfl, 1446, rfl, law_26 p l e s m below meth c b L xs D ci sa C0 hi hl hgo⟩
  · exact ⟨1456, rfl, 1489, rfl, law_27 p l e s m below meth c b L xs D ci sa C0 hi hl hgo⟩
  · exact ⟨1519, rfl, 1552, rfl, law_28 p l e s m below meth c b L xs D ci sa C0 hi hl hgo⟩
  · exact ⟨1542, rfl, 1575, rfl, law_29 p l e s m below meth c b L xs D ci sa C0 hi hl hgo⟩
  · exact ⟨1585, rfl, 1618, rfl, law_30 p l e s m below meth c b L xs D ci sa C0 hi hl hgo⟩
  · exact ⟨1618, rfl, 1651, rfl, law_31 p l e s m below meth c b L xs D ci sa C0 hi hl hgo⟩
  · exact ⟨1651, rfl, 1684, rfl, law_32 p l e s m below meth c b L xs D ci sa C0 hi hl hgo⟩
  · exact ⟨1694, rfl, 1727, rfl, law_33 p l e s m below meth c b L xs D ci sa C0 hi hl hgo⟩
  · exact ⟨1781, rfl, 1814, rfl, law_34 p l e s m below meth c b L xs D ci sa C0 hi hl hgo⟩
  · exact ⟨1824, rfl, 1857, rfl, law_35 p l e s m below meth c b L xs D ci sa C0 hi hl hgo⟩
  · exact ⟨1857, rfl, 1890, rfl, law_36 p l e s m below meth c b L xs D ci sa C0 hi hl hgo⟩
  · exact ⟨1890, rfl, 1923, rfl, law_37 p l e s m below meth c b L xs D ci sa C0 hi hl hgo⟩
  · exact ⟨1903, rfl, 1936, rfl, law_38 p l e s m below meth c b L xs D ci sa C0 hi hl hgo⟩
  · exact ⟨1978, rfl, 2011, rfl, law_39 p l e s m below meth c b L xs D ci sa C0 hi hl hgo⟩
  · exact ⟨2021, rfl, 2054, rfl, law_40 p l e s m below meth c b L xs D ci sa C0 hi hl hgo⟩
  · exact ⟨2064, rfl, 2097, rfl, law_41 p l e s m below meth c b L xs D ci sa C0 hi hl hgo⟩
  · exact ⟨2087, rfl, 2120, rfl, law_42 p l e s m below meth c b L xs D ci sa C0 hi hl hgo⟩
  · exact ⟨2100, rfl, 2133, rfl, law_43 p l e s m below meth c b L xs D ci sa C0 hi hl hgo⟩
theorem law_loop (p : Program) (l : Launch) (e : Env) (s : State) (m : MethodId) (below : List Frame) (meth : Method) (c : Code) (b L : Nat) (xs : Nat → Int32) (D : va_G) (ci : Nat → ClassId) (sa : Nat → Nat) {a_x a_m : Nat} (C0 : lL_C p l e s m below meth c b L xs D ci sa) : ∀ n i (ls : Array Slot), i ≤ 5000 → 5000 - i < n → lv_has ls 4 [(3, .int (nI i)), (2, .ref a_m), (1, .ref a_x), (0, .ref b)] → lL_go p l e s m below meth c b L xs D ci sa a_x a_m ls 18 := by
  intro n
  induction n with
  | zero => intro i ls _ h; omega
  | succ n ih =>
    intro i ls hi hn hl
    have C1 := C0
    obtain ⟨hx, hb, hml, hown, hts, hX, hbl, hK, hZ, hret, hlocks, hL⟩ := C0
    intro WX WM t tb nn s0 sv kv H locs cells slots hXI hMI hP hD hS hc hs
    have hbA : ¬ (fun q : Nat => s.heap.size ≤ q) b := Nat.not_le.mpr hbl
    refine lv_iload_n (pc := 18) hx hb dL_law_18 rfl (lv_at hl 0 rfl) ?_
    refine lv_aload_n (pc := 19) hx hb dL_law_19 rfl (lv_at hl 3 rfl) ?_
    refine va_slen (pc := 20) hx hb hX hbl hbA hS dL_law_20 ?_
    refine lv_bipush (pc := 21) (v := nI 8) hx hb dL_law_21 (by decide) ?_
    refine lv_isub (pc := 23) hx hb dL_law_23 ?_
    refine lv_icmp_gt (pc := 24) (tgt := 2152) hx hb dL_law_24 rfl (fun _ => ?_) (fun hle => ?_)
    · refine lv_iconst (pc := 2152) (v := 1) hx hb dL_law_2152 (by decide) ?_
      refine va_forget (fun q h => hS.2.2 q h) ?_
      have hr := l_rm (mc := 0) (ms := 0) hXI.n.2 hc hs (Nat.zero_le _) (Nat.zero_le _)
      refine W.widen (k := 600000) (n := 7302250) hr.1 hr.2 ?_
      exact lw_ret hx hb hret hlocks dL_law_2153
    · have hi8 : i + 8 ≤ L := l_le8 hL hi hle
      refine lv_aload_n (pc := 27) hx hb dL_law_27 rfl (lv_at hl 3 rfl) ?_
      refine lv_iload_n (pc := 28) hx hb dL_law_28 rfl (lv_at hl 0 rfl) ?_
      refine va_sld (pc := 29) (i := nI i) hx hb hX hbl hbA hS (l_in0 hi8 hL) dL_law_29 ?_
      refine lv_bipush (pc := 30) (v := nI 63) hx hb dL_law_30 (by decide) ?_
      refine lv_iand (pc := 32) hx hb dL_law_32 ?_
      obtain ⟨k, hk, ek⟩ := l_and63 (xs (nI i).toNatClampNeg)
      rw [ek]
      have hend : lL_go p l e s m below meth c b L xs D ci sa a_x a_m ls 2146 := by
        intro WX WM t tb nn s0 sv kv H locs cells slots hXI hMI hP hD hS hc hs
        refine lv_iinc (pc := 2146) (k := 0) (v := nI (i + 8)) (lv' := [(3, .int (nI (i + 8))), (2, .ref a_m), (1, .ref a_x), (0, .ref b)]) hx hb dL_law_2146 hl rfl (by rw [show Int32.ofInt 8 = nI 8 from rfl, nI_add]) (by decide) rfl (fun ls2 hl2 => ?_)
        refine lv_goto (pc := 2149) (tgt := 18) hx hb dL_law_2149 rfl ?_
        exact ih (i + 8) ls2 (by omega) (by omega) hl2 WX WM t tb nn s0 sv kv H locs cells slots hXI hMI hP hD hS hc hs
      by_cases h44 : k < 44
      · obtain ⟨off, ho, tgt, ht, hgo⟩ := law_switch p l e s m below meth c b L xs D ci sa C1 hi8 hl hend k h44
        have e0 : ((nI k).toInt - 0).toNat = k := by rw [nI_toInt (by omega)]; omega
        refine lv_tableIn (pc := 33) (tgt := tgt) hx hb dL_law_33 (by rw [nI_toInt (by omega)]; omega) (by rw [nI_toInt (by omega)]; omega) (by rw [e0]; exact ho) ht ?_
        exact hgo WX WM t tb nn s0 sv kv H locs cells slots hXI hMI hP hD hS hc hs
      · refine lv_tableOut (pc := 33) (tgt := 2146) hx hb dL_law_33 (Or.inr (by rw [nI_toInt (by omega)]; omega)) rfl ?_
        exact hend WX WM t tb nn s0 sv kv H locs cells slots hXI hMI hP hD hS hc hs
end
section
/-! the law's start: classes, arrays, statics, String constants -/
section LS
variable {s : State} {b : Nat}
theorem l_arr {aa : Array Value} {ty : FieldType} (h : (Cond.arrayClass ty).before aa s = true) : ∃ cA, ArrOfT s cA ty ∧ s.vm.findClass ("[" ++ ty.toString) = some cA := by
  obtain ⟨c, k, comp, h1, h2, h3⟩ := Cond.arrayClass_spec (args := aa) h
  exact ⟨c, fun n z => ⟨fun k h => (by cases h), k, h2, comp, h3⟩, h1⟩
theorem l_arrO {aa : Array Value} {C : String} (h : (Cond.arrayOver (.object C)).before aa s = true) : ∃ cA, ArrOfT s cA (.object C) ∧ va_RA s cA (.object C) := by
  obtain ⟨comp, c, k, h1, h2, h3, h4, h5⟩ := Cond.arrayOver_spec h
  exact ⟨c, fun n z => ⟨fun k h => (by cases h), k, h3, comp, h4⟩, k, comp, h3, h4, h1, h5⟩
theorem l_mc : Cond.arrayClass .int ∈ lw_tbl ∧ Cond.arrayClass .long ∈ lw_tbl ∧ Cond.arrayClass .byte ∈ lw_tbl ∧ Cond.arrayOver (.object "SheetNames$Atlas") ∈ lw_tbl := ⟨tb_1 _ (List.mem_of_getElem? (i := 83) rfl), tb_6 _ (List.mem_of_getElem? (i := 47) rfl), tb_5 _ (List.mem_of_getElem? (i := 14) rfl), tb_1 _ (List.mem_of_getElem? (i := 150) rfl)⟩
theorem l_mi : Cond.instantiable RX0 6 ∈ lw_tbl ∧ Cond.instantiable RX1 5 ∈ lw_tbl ∧ Cond.instantiable RX2 6 ∈ lw_tbl ∧ Cond.instantiable RX3 9 ∈ lw_tbl ∧ Cond.instantiable RX4 2 ∈ lw_tbl ∧ Cond.instantiable RX5 7 ∈ lw_tbl ∧ Cond.instantiable RX6 11 ∈ lw_tbl ∧ Cond.instantiable RX7 9 ∈ lw_tbl ∧ Cond.instantiable RX8 2 ∈ lw_tbl ∧ Cond.instantiable RX9 4 ∈ lw_tbl ∧ Cond.instantiable RX10 14 ∈ lw_tbl ∧ Cond.instantiable RX11 42 ∈ lw_tbl := ⟨tb_1 _ (List.mem_of_getElem? (i := 29) rfl), tb_2 _ (List.mem_of_getElem? (i := 73) rfl), tb_1 _ (List.mem_of_getElem? (i := 35) rfl), tb_1 _ (List.mem_of_getElem? (i := 168) rfl), tb_2 _ (List.mem_of_getElem? (i := 95) rfl), tb_1 _ (List.mem_of_getElem? (i := 208) rfl), tb_2 _ (List.mem_of_getElem? (i := 1) rfl), tb_1 _ (List.mem_of_getElem? (i := 85) rfl), tb_1 _ (List.mem_of_getElem? (i := 152) rfl), tb_2 _ (List.mem_of_getElem? (i := 52) rfl), tb_1 _ (List.mem_of_getElem? (i := 21) rfl), tb_5 _ (List.mem_of_getElem? (i := 148) rfl)⟩
theorem lw_K0 (hts : ∀ w ∈ lw_tbl, w.before #[Value.ref b] s = true) : ∃ (D : va_G) (ci : Nat → ClassId), va_K D vwCl (q_tys ci) s := by
  obtain ⟨m0, m1, m2, m3, m4, m5, m6, m7, m8, m9, m10, m11⟩ := l_mi
  obtain ⟨c0, i0, h0⟩ := u_known (C := RX0) (T := TX0) (N := 6) (n := 6) hts (fun w h => (List.mem_filter.mp (inWX00 w h)).1) (hts _ m0)
  obtain ⟨c1, i1, h1⟩ := u_known (C := RX1) (T := TX1) (N := 5) (n := 5) hts (fun w h => (List.mem_filter.mp (inWX10 w h)).1) (hts _ m1)
  obtain ⟨c2, i2, h2⟩ := u_known (C := RX2) (T := TX2) (N := 6) (n := 6) hts (fun w h => (List.mem_filter.mp (inWX20 w h)).1) (hts _ m2)
  obtain ⟨c3, i3, h3⟩ := u_known (C := RX3) (T := TX3) (N := 9) (n := 9) hts (fun w h => (List.mem_filter.mp (inWX30 w h)).1) (hts _ m3)
  obtain ⟨c4, i4, h4⟩ := u_known (C := RX4) (T := TX4) (N := 2) (n := 2) hts (fun w h => (List.mem_filter.mp (inWX40 w h)).1) (hts _ m4)
  obtain ⟨c5, i5, h5⟩ := u_known (C := RX5) (T := TX5) (N := 7) (n := 7) hts (fun w h => (List.mem_filter.mp (inWX50 w h)).1) (hts _ m5)
  obtain ⟨c6, i6, h6⟩ := u_known (C := RX6) (T := TX6) (N := 11) (n := 11) hts (fun w h => (List.mem_filter.mp (inWX60 w h)).1) (hts _ m6)
  obtain ⟨c7, i7, h7⟩ := u_known (C := RX7) (T := TX7) (N := 9) (n := 9) hts (fun w h => (List.mem_filter.mp (inWX70 w h)).1) (hts _ m7)
  obtain ⟨c8, i8, h8⟩ := u_known (C := RX8) (T := TX8) (N := 2) (n := 2) hts (fun w h => (List.mem_filter.mp (inWX80 w h)).1) (hts _ m8)
  obtain ⟨c9, i9, h9⟩ := u_known (C := RX9) (T := TX9) (N := 4) (n := 4) hts (fun w h => (List.mem_filter.mp (inWX90 w h)).1) (hts _ m9)
  obtain ⟨c10, i10, h10⟩ := u_known (C := RX10) (T := TX10) (N := 14) (n := 14) hts (fun w h => (List.mem_filter.mp (inWX100 w h)).1) (hts _ m10)
  obtain ⟨c11, i11, h11⟩ := u_known (C := RX11) (T := TX11) (N := 42) (n := 42) hts (fun w h => (List.mem_filter.mp (inWX110 w h)).1) (hts _ m11)
  obtain ⟨a0, p0, q0⟩ := l_arr (hts _ l_mc.1)
  obtain ⟨a1, p1, q1⟩ := l_arr (hts _ l_mc.2.1)
  obtain ⟨a2, p2, q2⟩ := l_arr (hts _ l_mc.2.2.1)
  obtain ⟨a3, p3, q3⟩ := l_arrO (hts _ l_mc.2.2.2)
  refine ⟨(fun k => match k with
    | 0 => c0
    | 1 => c1
    | 2 => c2
    | 3 => c3
    | 4 => c4
    | 5 => c5
    | 6 => c6
    | 7 => c7
    | 8 => c8
    | 9 => c9
    | 10 => c10
    | _ => c11, fun k => match k with
    | 0 => i0
    | 1 => i1
    | 2 => i2
    | 3 => i3
    | 4 => i4
    | 5 => i5
    | 6 => i6
    | 7 => i7
    | 8 => i8
    | 9 => i9
    | 10 => i10
    | _ => i11), fun k => match k with
    | 0 => a0
    | 1 => a1
    | 2 => a2
    | _ => a3, ?_, ?_⟩
  · intro k q hq
    match k, hq with
    | 0, hq => cases hq; exact h0
    | 1, hq => cases hq; exact h1
    | 2, hq => cases hq; exact h2
    | 3, hq => cases hq; exact h3
    | 4, hq => cases hq; exact h4
    | 5, hq => cases hq; exact h5
    | 6, hq => cases hq; exact h6
    | 7, hq => cases hq; exact h7
    | 8, hq => cases hq; exact h8
    | 9, hq => cases hq; exact h9
    | 10, hq => cases hq; exact h10
    | 11, hq => cases hq; exact h11
    | k + 12, hq => simp at hq
  · intro k q hq
    match k, hq with
    | 0, hq => cases hq; exact ⟨p0, q0⟩
    | 1, hq => cases hq; exact ⟨p1, q1⟩
    | 2, hq => cases hq; exact ⟨p2, q2⟩
    | 3, hq => cases hq; exact ⟨p3, q3⟩
    | k + 4, hq => simp at hq
abbrev l_gn : Cond := Jvm.Cond.and given_1 narrow_1
set_option maxRecDepth 20000 in
theorem l_f1a : ∀ j, j < 44 → (flatC l_gn)[54 + j]? = some (Cond.eq (.elem (.static "SheetNames" "BAND_ZONES" "[I") (.int (Int32.ofNat j))) (.int (q_bZ j))) := by decide +kernel
set_option maxRecDepth 20000 in
theorem l_f1 : (Cond.arrayOf (.static "SheetNames" "BAND_ZONES" "[I") .int ∈ flatC l_gn ∧ Cond.eq (.length (.static "SheetNames" "BAND_ZONES" "[I")) (.int (Int32.ofNat 44)) ∈ flatC l_gn) ∧ (∀ j, j < 44 → Cond.eq (.elem (.static "SheetNames" "BAND_ZONES" "[I") (.int (Int32.ofNat j))) (.int (q_bZ j)) ∈ flatC l_gn) := ⟨⟨List.mem_of_getElem? (i := 52) (by decide +kernel), List.mem_of_getElem? (i := 53) (by decide +kernel)⟩, fun j hj => List.mem_of_getElem? (l_f1a j hj)⟩
set_option maxRecDepth 20000 in
theorem l_f2a : ∀ j, j < 44 → (flatC l_gn)[7 + j]? = some (Cond.eq (.elem (.static "SheetNames" "ZONES_AHEAD" "[I") (.int (Int32.ofNat j))) (.int (q_zA j))) := by decide +kernel
set_option maxRecDepth 20000 in
theorem l_f2 : (Cond.arrayOf (.static "SheetNames" "ZONES_AHEAD" "[I") .int ∈ flatC l_gn ∧ Cond.eq (.length (.static "SheetNames" "ZONES_AHEAD" "[I")) (.int (Int32.ofNat 44)) ∈ flatC l_gn) ∧ (∀ j, j < 44 → Cond.eq (.elem (.static "SheetNames" "ZONES_AHEAD" "[I") (.int (Int32.ofNat j))) (.int (q_zA j)) ∈ flatC l_gn) := ⟨⟨List.mem_of_getElem? (i := 5) (by decide +kernel), List.mem_of_getElem? (i := 6) (by decide +kernel)⟩, fun j hj => List.mem_of_getElem? (l_f2a j hj)⟩
set_option maxRecDepth 20000 in
theorem l_f3 : Cond.eq (.static "java/lang/String" "COMPACT_STRINGS" "Z") (.int 1) ∈ flatC l_gn ∧ Cond.isRef (.static "jdk/internal/util/Preconditions" "SIOOBE_FORMATTER" "Ljava/util/function/BiFunction;") ∈ flatC l_gn := ⟨List.mem_of_getElem? (i := 98) (by decide +kernel), List.mem_of_getElem? (i := 99) (by decide +kernel)⟩
abbrev l_tm (i : Nat) : Term := .string "SheetNames$Question" (q_sidx.getD i 0)
set_option maxRecDepth 20000 in
theorem l_f4a : ∀ i, i < 7 → (flatC l_gn)[([103, 112, 121, 132, 143, 156, 170] : List Nat).getD i 0]? = some (Cond.exactly (l_tm i) "java/lang/String") := by decide +kernel
set_option maxRecDepth 20000 in
theorem l_f4b : ∀ i, i < 7 → (flatC l_gn)[([104, 113, 122, 133, 144, 157, 171] : List Nat).getD i 0]? = some (Cond.eq (.field (l_tm i) "java/lang/String" "coder" "B") (.int 0)) := by decide +kernel
set_option maxRecDepth 20000 in
theorem l_f4c : ∀ i, i < 7 → (flatC l_gn)[([105, 114, 123, 134, 145, 158, 172] : List Nat).getD i 0]? = some (Cond.arrayOf (.field (l_tm i) "java/lang/String" "value" "[B") .byte) := by decide +kernel
set_option maxRecDepth 20000 in
theorem l_f4d : ∀ i, i < 7 → (flatC l_gn)[([106, 115, 124, 135, 146, 159, 173] : List Nat).getD i 0]? = some (Cond.eq (.length (.field (l_tm i) "java/lang/String" "value" "[B")) (.int (Int32.ofNat (q_slen.getD i 0)))) := by decide +kernel
set_option maxRecDepth 20000 in
theorem l_f4 : ∀ i, i < 7 → (Cond.exactly (l_tm i) "java/lang/String" ∈ flatC l_gn ∧ Cond.eq (.field (l_tm i) "java/lang/String" "coder" "B") (.int 0) ∈ flatC l_gn) ∧ Cond.arrayOf (.field (l_tm i) "java/lang/String" "value" "[B") .byte ∈ flatC l_gn ∧ Cond.eq (.length (.field (l_tm i) "java/lang/String" "value" "[B")) (.int (Int32.ofNat (q_slen.getD i 0))) ∈ flatC l_gn := fun i hi => ⟨⟨List.mem_of_getElem? (l_f4a i hi), List.mem_of_getElem? (l_f4b i hi)⟩, List.mem_of_getElem? (l_f4c i hi), List.mem_of_getElem? (l_f4d i hi)⟩
set_option maxRecDepth 20000 in
theorem l_f5a : ∀ i, i < 7 → ∀ j, j < q_slen.getD i 0 → (flatC l_gn)[([107, 116, 125, 136, 147, 160, 174] : List Nat).getD i 0 + j]? = some (Cond.eq (.elem (.field (l_tm i) "java/lang/String" "value" "[B") (.int (Int32.ofNat j))) (.int ((q_sbyt.getD i []).getD j 0))) := by decide +kernel
set_option maxRecDepth 20000 in
theorem l_f5 : ∀ i, i < 7 → ∀ j, j < q_slen.getD i 0 → Cond.eq (.elem (.field (l_tm i) "java/lang/String" "value" "[B") (.int (Int32.ofNat j))) (.int ((q_sbyt.getD i []).getD j 0)) ∈ flatC l_gn := fun i hi j hj => List.mem_of_getElem? (l_f5a i hi j hj)
set_option maxRecDepth 20000 in
theorem l_f6a : ∀ i, i < 7 → ∀ j, j < 7 → i < j → (flatC l_gn)[(([[0, 120, 130, 140, 152, 165, 181], [0, 0, 131, 141, 153, 166, 182], [0, 0, 0, 142, 154, 167, 183], [0, 0, 0, 0, 155, 168, 184], [0, 0, 0, 0, 0, 169, 185], [0, 0, 0, 0, 0, 0, 186], [0, 0, 0, 0, 0, 0, 0]] : List (List Nat)).getD i []).getD j 0]? = some (Cond.not (Cond.eq (l_tm i) (l_tm j))) := by decide +kernel
set_option maxRecDepth 20000 in
theorem l_f6 : ∀ i, i < 7 → ∀ j, j < 7 → i ≠ j → Cond.not (Cond.eq (l_tm i) (l_tm j)) ∈ flatC l_gn ∨ Cond.not (Cond.eq (l_tm j) (l_tm i)) ∈ flatC l_gn := fun i hi j hj ne => (Nat.lt_or_gt_of_ne ne).elim (fun h => Or.inl (List.mem_of_getElem? (l_f6a i hi j hj h))) (fun h => Or.inr (List.mem_of_getElem? (l_f6a j hj i hi h)))
theorem l_t1 : (Cond.laysStatic "SheetNames" "BAND_ZONES" "[I" ∈ lw_tbl ∧ Cond.laysStatic "SheetNames" "ZONES_AHEAD" "[I" ∈ lw_tbl ∧ Cond.laysStatic "java/lang/String" "COMPACT_STRINGS" "Z" ∈ lw_tbl ∧ Cond.laysStatic "jdk/internal/util/Preconditions" "SIOOBE_FORMATTER" "Ljava/util/function/BiFunction;" ∈ lw_tbl) ∧ Cond.initialized "SheetNames" ∈ lw_tbl ∧ Cond.initialized "java/lang/String" ∈ lw_tbl ∧ Cond.initialized "jdk/internal/util/Preconditions" ∈ lw_tbl := ⟨⟨tb_2 _ (List.mem_of_getElem? (i := 216) rfl), tb_2 _ (List.mem_of_getElem? (i := 214) rfl), tb_4 _ (List.mem_of_getElem? (i := 196) rfl), tb_4 _ (List.mem_of_getElem? (i := 212) rfl)⟩, tb_1 _ (List.mem_of_getElem? (i := 1) rfl), tb_1 _ (List.mem_of_getElem? (i := 15) rfl), tb_1 _ (List.mem_of_getElem? (i := 17) rfl)⟩
theorem l_t2 : ∀ i, i < 7 → Cond.stringRef "SheetNames$Question" (q_sidx.getD i 0) (q_stx.getD i "") ∈ lw_tbl := by decide +kernel
theorem l_t3 : ∀ q ∈ q_nf, Cond.fieldLinkNest q.1 q.2.1 q.2.2.1 q.2.2.2.1 q.2.2.2.2.1 q.2.2.2.2.2 ∈ lw_tbl := List.forall_mem_cons.mpr ⟨tb_1 _ (List.mem_of_getElem? (i := 99) rfl), List.forall_mem_cons.mpr ⟨tb_1 _ (List.mem_of_getElem? (i := 68) rfl), List.forall_mem_cons.mpr ⟨tb_1 _ (List.mem_of_getElem? (i := 62) rfl), List.forall_mem_cons.mpr ⟨tb_1 _ (List.mem_of_getElem? (i := 45) rfl), List.forall_mem_cons.mpr ⟨tb_1 _ (List.mem_of_getElem? (i := 51) rfl), List.forall_mem_cons.mpr ⟨tb_1 _ (List.mem_of_getElem? (i := 56) rfl), List.forall_mem_cons.mpr ⟨tb_1 _ (List.mem_of_getElem? (i := 60) rfl), List.forall_mem_cons.mpr ⟨tb_1 _ (List.mem_of_getElem? (i := 126) rfl), List.forall_mem_cons.mpr ⟨tb_2 _ (List.mem_of_getElem? (i := 103) rfl), List.forall_mem_cons.mpr ⟨tb_2 _ (List.mem_of_getElem? (i := 101) rfl), List.forall_mem_cons.mpr ⟨tb_1 _ (List.mem_of_getElem? (i := 179) rfl), List.forall_mem_cons.mpr ⟨tb_1 _ (List.mem_of_getElem? (i := 182) rfl), List.forall_mem_cons.mpr ⟨tb_1 _ (List.mem_of_getElem? (i := 128) rfl), List.forall_mem_cons.mpr ⟨tb_2 _ (List.mem_of_getElem? (i := 20) rfl), List.forall_mem_cons.mpr ⟨tb_2 _ (List.mem_of_getElem? (i := 23) rfl), List.forall_mem_cons.mpr ⟨tb_2 _ (List.mem_of_getElem? (i := 25) rfl), List.forall_mem_cons.mpr ⟨tb_2 _ (List.mem_of_getElem? (i := 11) rfl), List.forall_mem_cons.mpr ⟨tb_2 _ (List.mem_of_getElem? (i := 9) rfl), List.forall_mem_cons.mpr ⟨tb_2 _ (List.mem_of_getElem? (i := 15) rfl), List.forall_mem_cons.mpr ⟨tb_2 _ (List.mem_of_getElem? (i := 13) rfl), List.forall_mem_cons.mpr ⟨tb_1 _ (List.mem_of_getElem? (i := 216) rfl), List.forall_mem_cons.mpr ⟨tb_1 _ (List.mem_of_getElem? (i := 218) rfl), List.forall_mem_cons.mpr ⟨tb_1 _ (List.mem_of_getElem? (i := 220) rfl), List.forall_mem_cons.mpr ⟨tb_1 _ (List.mem_of_getElem? (i := 222) rfl), List.forall_mem_cons.mpr ⟨tb_1 _ (List.mem_of_getElem? (i := 224) rfl), List.forall_mem_cons.mpr ⟨tb_1 _ (List.mem_of_getElem? (i := 96) rfl), List.forall_mem_cons.mpr ⟨tb_1 _ (List.mem_of_getElem? (i := 92) rfl), List.forall_mem_cons.mpr ⟨tb_1 _ (List.mem_of_getElem? (i := 94) rfl), List.forall_mem_cons.mpr ⟨tb_1 _ (List.mem_of_getElem? (i := 101) rfl), List.forall_mem_cons.mpr ⟨tb_1 _ (List.mem_of_getElem? (i := 103) rfl), List.forall_mem_cons.mpr ⟨tb_1 _ (List.mem_of_getElem? (i := 105) rfl), List.forall_mem_cons.mpr ⟨tb_1 _ (List.mem_of_getElem? (i := 130) rfl), List.forall_mem_cons.mpr ⟨tb_1 _ (List.mem_of_getElem? (i := 132) rfl), List.forall_mem_cons.mpr ⟨tb_1 _ (List.mem_of_getElem? (i := 134) rfl), List.forall_mem_cons.mpr ⟨tb_1 _ (List.mem_of_getElem? (i := 136) rfl), List.forall_mem_cons.mpr ⟨tb_1 _ (List.mem_of_getElem? (i := 160) rfl), List.forall_mem_cons.mpr ⟨tb_1 _ (List.mem_of_getElem? (i := 187) rfl), List.forall_mem_cons.mpr ⟨tb_1 _ (List.mem_of_getElem? (i := 184) rfl), List.forall_mem_cons.mpr ⟨tb_1 _ (List.mem_of_getElem? (i := 57) rfl), List.forall_mem_cons.mpr ⟨tb_1 _ (List.mem_of_getElem? (i := 63) rfl), List.forall_mem_cons.mpr ⟨tb_1 _ (List.mem_of_getElem? (i := 48) rfl), List.forall_mem_cons.mpr ⟨tb_1 _ (List.mem_of_getElem? (i := 53) rfl), List.forall_mem_cons.mpr ⟨tb_2 _ (List.mem_of_getElem? (i := 215) rfl), List.forall_mem_cons.mpr ⟨tb_2 _ (List.mem_of_getElem? (i := 213) rfl), List.forall_mem_cons.mpr ⟨tb_1 _ (List.mem_of_getElem? (i := 67) rfl), List.forall_mem_cons.mpr ⟨tb_3 _ (List.mem_of_getElem? (i := 68) rfl), List.forall_mem_cons.mpr ⟨tb_1 _ (List.mem_of_getElem? (i := 50) rfl), List.forall_mem_cons.mpr ⟨tb_1 _ (List.mem_of_getElem? (i := 46) rfl), List.forall_mem_cons.mpr ⟨tb_1 _ (List.mem_of_getElem? (i := 161) rfl), List.forall_mem_cons.mpr ⟨tb_1 _ (List.mem_of_getElem? (i := 158) rfl), List.forall_mem_cons.mpr ⟨tb_2 _ (List.mem_of_getElem? (i := 27) rfl), List.forall_mem_cons.mpr ⟨tb_2 _ (List.mem_of_getElem? (i := 19) rfl), List.forall_mem_cons.mpr ⟨tb_2 _ (List.mem_of_getElem? (i := 17) rfl), List.forall_mem_cons.mpr ⟨tb_1 _ (List.mem_of_getElem? (i := 178) rfl), List.forall_mem_cons.mpr ⟨tb_1 _ (List.mem_of_getElem? (i := 181) rfl), List.forall_mem_cons.mpr ⟨tb_1 _ (List.mem_of_getElem? (i := 69) rfl), List.forall_mem_cons.mpr ⟨tb_1 _ (List.mem_of_getElem? (i := 64) rfl), List.forall_mem_cons.mpr ⟨tb_1 _ (List.mem_of_getElem? (i := 55) rfl), List.forall_mem_cons.mpr ⟨tb_1 _ (List.mem_of_getElem? (i := 59) rfl), List.forall_mem_cons.mpr ⟨tb_1 _ (List.mem_of_getElem? (i := 47) rfl), List.forall_mem_cons.mpr ⟨tb_1 _ (List.mem_of_getElem? (i := 52) rfl), List.forall_mem_cons.mpr ⟨tb_2 _ (List.mem_of_getElem? (i := 7) rfl), List.forall_mem_cons.mpr ⟨tb_1 _ (List.mem_of_getElem? (i := 66) rfl), fun _ h => absurd h List.not_mem_nil⟩⟩⟩⟩⟩⟩⟩⟩⟩⟩⟩⟩⟩⟩⟩⟩⟩⟩⟩⟩⟩⟩⟩⟩⟩⟩⟩⟩⟩⟩⟩⟩⟩⟩⟩⟩⟩⟩⟩⟩⟩⟩⟩⟩⟩⟩⟩⟩⟩⟩⟩⟩⟩⟩⟩⟩⟩⟩⟩⟩⟩⟩⟩
theorem l_t4 : ∀ q ∈ q_nml, Cond.methodLinkNest q.1 q.2.1 q.2.2.1 q.2.2.2 ∈ lw_tbl := List.forall_mem_cons.mpr ⟨tb_1 _ (List.mem_of_getElem? (i := 153) rfl), List.forall_mem_cons.mpr ⟨tb_2 _ (List.mem_of_getElem? (i := 96) rfl), List.forall_mem_cons.mpr ⟨tb_1 _ (List.mem_of_getElem? (i := 30) rfl), List.forall_mem_cons.mpr ⟨tb_2 _ (List.mem_of_getElem? (i := 234) rfl), fun _ h => absurd h List.not_mem_nil⟩⟩⟩⟩
theorem l_slen : ∀ i, i < 7 → q_slen.getD i 0 < 2 ^ 31 := by decide +kernel
theorem lw_Z0 (hts : ∀ w ∈ lw_tbl, w.before #[Value.ref b] s = true) (hg : l_gn.before #[Value.ref b] s = true) : ∃ sa : Nat → Nat, q_Z (fun q : Nat => s.heap.size ≤ q) sa s := by
  have hs := flat_of_before _ hg
  have hA : ∀ a : Nat, a < s.heap.size → ¬ (fun q : Nat => s.heap.size ≤ q) a := fun a h => Nat.not_le.mpr h
  obtain ⟨⟨y1, y2, y3, y4⟩, z1, z2, z3⟩ := l_t1
  obtain ⟨t0, e0, T0⟩ := va_Tof (tm := .static "SheetNames" "BAND_ZONES" "[I") (ty := .int) (N := 44) (f := fun j => .int (q_bZ j)) (by decide) (hs _ l_f1.1.1) (va_eqt (hs _ l_f1.1.2)) (fun j hj => va_eqt (hs _ (l_f1.2 j hj))) hA
  obtain ⟨t1, e1, T1⟩ := va_Tof (tm := .static "SheetNames" "ZONES_AHEAD" "[I") (ty := .int) (N := 44) (f := fun j => .int (q_zA j)) (by decide) (hs _ l_f2.1.1) (va_eqt (hs _ l_f2.1.2)) (fun j hj => va_eqt (hs _ (l_f2.2 j hj))) hA
  obtain ⟨adK, adV, hSt, hEv⟩ := vk_Sof (N := 7) (tm := l_tm) (len := q_slen) (byt := q_sbyt) l_slen (fun i hi => hs _ (l_f4 i hi).1.1) (fun i hi => hs _ (l_f4 i hi).1.2) (fun i hi => hs _ (l_f4 i hi).2.1) (fun i hi => hs _ (l_f4 i hi).2.2) (fun i hi j hj => hs _ (l_f5 i hi j hj)) (fun i j hi hj hij => (l_f6 i hi j hj hij).imp (hs _) (hs _)) hA
  have hfo : ∃ so : Nat, va_Z "jdk/internal/util/Preconditions" "SIOOBE_FORMATTER" "Ljava/util/function/BiFunction;" (va_rf (if so = 0 then none else some (so - 1))) (fun q : Nat => s.heap.size ≤ q) s s.heap := by
    rcases va_Zqof (hts _ y4) (hts _ z3) (hs _ l_f3.2) hA with h | ⟨t, h⟩
    · exact ⟨0, h⟩
    · exact ⟨t + 1, by rw [if_neg (by omega), Nat.add_sub_cancel]; exact h⟩
  obtain ⟨so, hso⟩ := hfo
  refine ⟨fun i => if i = 0 then t0 else if i = 1 then t1 else if i < 9 then adK (i - 2) else if i < 16 then adV (i - 9) else so, va_Zof (hts _ y1) (hts _ z1) e0 hA, T0, va_Zof (hts _ y2) (hts _ z1) e1 hA, T1, va_Zof (hts _ y3) (hts _ z2) (va_eqt (hs _ l_f3.1)) hA, ?_, ?_, hso, va_AO.of (hts _ l_mc.2.2.2), fun q hq => va_Nw.of rfl (hts _ (l_t3 q hq)), fun q hq => va_Nw.of rfl (hts _ (l_t4 q hq))⟩
  · have eK : ∀ i, i < 7 → (fun i : Nat => if 2 + i = 0 then t0 else if 2 + i = 1 then t1 else if 2 + i < 9 then adK (2 + i - 2) else if 2 + i < 16 then adV (2 + i - 9) else so) i = adK i := by
      intro i hi
      dsimp only
      rw [if_neg (by omega), if_neg (by omega), if_pos (by omega), Nat.add_sub_cancel_left]
    have eV : ∀ i, i < 7 → (fun i : Nat => if 9 + i = 0 then t0 else if 9 + i = 1 then t1 else if 9 + i < 9 then adK (9 + i - 2) else if 9 + i < 16 then adV (9 + i - 9) else so) i = adV i := by
      intro i hi
      dsimp only
      rw [if_neg (by omega), if_neg (by omega), if_neg (by omega), if_pos (by omega), Nat.add_sub_cancel_left]
    refine ⟨fun i hi => ?_, fun i j hi hj e => hSt.2 i j hi hj ?_⟩
    · have h := hSt.1 i hi
      rw [← eK i hi, ← eV i hi] at h
      exact h
    · rw [← eK i hi, ← eK j hj]
      exact e
  · intro i hi
    have h2 : (if 2 + i = 0 then t0 else if 2 + i = 1 then t1 else if 2 + i < 9 then adK (2 + i - 2) else if 2 + i < 16 then adV (2 + i - 9) else so) = adK i := by
      rw [if_neg (by omega), if_neg (by omega), if_pos (by omega), Nat.add_sub_cancel_left]
    have h := vk_R.of (hts _ (l_t2 i hi)) (hEv i hi)
    rw [← h2] at h
    exact h
end LS
end
section
/-! the law's start -/
theorem l_m0 : (Cond.classLink RL 7 RX10 ∈ lw_tbl ∧ Cond.initialized RX10 ∈ lw_tbl ∧ Cond.methodLink RL 9 yX10_init ∈ lw_tbl ∧ Cond.instanceMethod yX10_init ∈ lw_tbl) ∧ Cond.classLink RL 10 RX11 ∈ lw_tbl ∧ Cond.initialized RX11 ∈ lw_tbl ∧ Cond.methodLink RL 12 yX11_init ∈ lw_tbl ∧ Cond.instanceMethod yX11_init ∈ lw_tbl := ⟨⟨tb_1 _ (List.mem_of_getElem? (i := 20) rfl), tb_1 _ (List.mem_of_getElem? (i := 1) rfl), tb_1 _ (List.mem_of_getElem? (i := 22) rfl), tb_1 _ (List.mem_of_getElem? (i := 23) rfl)⟩, tb_5 _ (List.mem_of_getElem? (i := 147) rfl), tb_1 _ (List.mem_of_getElem? (i := 12) rfl), tb_5 _ (List.mem_of_getElem? (i := 149) rfl), tb_5 _ (List.mem_of_getElem? (i := 150) rfl)⟩
theorem l_nulX : ∀ j, j < 14 → defaultValue (tyX10 j) = vp_V [.null, .null, .null, .null, .int 0, .null, .null, .null, .null, .null, .null, .null, .null, .null] j := by
  intro j hj
  rcases (show j = 0 ∨ j = 1 ∨ j = 2 ∨ j = 3 ∨ j = 4 ∨ j = 5 ∨ j = 6 ∨ j = 7 ∨ j = 8 ∨ j = 9 ∨ j = 10 ∨ j = 11 ∨ j = 12 ∨ j = 13 by omega) with rfl | rfl | rfl | rfl | rfl | rfl | rfl | rfl | rfl | rfl | rfl | rfl | rfl | rfl <;> rfl
abbrev l_nulM : List Value := [.null, .null, .null, .null, .null, .null, .null, .null, .int 0, .int 0, .int 0, .int 0, .int 0, .int 0, .int 0, .int 0, .int 0, .int 0, .long 0, .long 0, .null, .int 0, .int 0, .null, .null, .int 0, .int 0, .int 0, .int 0, .int 0, .int 0, .int 0, .int 0, .int 0, .null, .null, .null, .int 0, .null, .null, .int 0, .null]
theorem l_nulM2 : ∀ j, j < 42 → defaultValue (tyX11 j) = vp_V l_nulM j := by
  intro j hj
  rcases (show j = 0 ∨ j = 1 ∨ j = 2 ∨ j = 3 ∨ j = 4 ∨ j = 5 ∨ j = 6 ∨ j = 7 ∨ j = 8 ∨ j = 9 ∨ j = 10 ∨ j = 11 ∨ j = 12 ∨ j = 13 ∨ j = 14 ∨ j = 15 ∨ j = 16 ∨ j = 17 ∨ j = 18 ∨ j = 19 ∨ j = 20 ∨ j = 21 ∨ j = 22 ∨ j = 23 ∨ j = 24 ∨ j = 25 ∨ j = 26 ∨ j = 27 ∨ j = 28 ∨ j = 29 ∨ j = 30 ∨ j = 31 ∨ j = 32 ∨ j = 33 ∨ j = 34 ∨ j = 35 ∨ j = 36 ∨ j = 37 ∨ j = 38 ∨ j = 39 ∨ j = 40 ∨ j = 41 by omega) with rfl | rfl | rfl | rfl | rfl | rfl | rfl | rfl | rfl | rfl | rfl | rfl | rfl | rfl | rfl | rfl | rfl | rfl | rfl | rfl | rfl | rfl | rfl | rfl | rfl | rfl | rfl | rfl | rfl | rfl | rfl | rfl | rfl | rfl | rfl | rfl | rfl | rfl | rfl | rfl | rfl | rfl <;> rfl
theorem whole_start {p : Program} {e : Env} {s : State} {m : MethodId} {below : List Frame} {meth : Method} {c : Code} (l : Launch) (hflags : l.flags = flags0) {b L : Nat} {xs : Nat → Int32} (hL : L ≤ 4096) (C0 : lw_At p s m meth c b L xs) : W p l e room_1 s m #[Value.ref b] below meth c s.heap [] 0 0 (lw_Z below #[Value.ref b] s) (entryFrame m ([Value.ref b] : List Value).toArray 4) := by
  obtain ⟨hx, hb, hr, hml, hown, hts, hX, hbl, hlocks, hgv⟩ := id C0
  obtain ⟨D, ci, hK⟩ := lw_K0 hts
  obtain ⟨sa, hZ⟩ := lw_Z0 hts hgv
  obtain ⟨⟨n1, n2, n3, n4⟩, n5, n6, n7, n8⟩ := l_m0
  obtain ⟨-, -, -, -, -, -, -, -, -, -, i10, i11⟩ := l_mi
  have htsL := wsL_law_at hts
  have hown : s.vm.findClass RL = some m.cls := hown
  have hA : ∀ q : Nat, s.heap.size ≤ q → (fun q : Nat => s.heap.size ≤ q) q := fun _ h => h
  have hS : va_S (fun q : Nat => s.heap.size ≤ q) s.heap s.heap [] := va_S.rf
  have hP : va_P D vwCl [] s.heap := fun k q h => by simp at h
  have hD : va_D (fun q : Nat => s.heap.size ≤ q) [] := ⟨fun i j p q h => by simp at h, fun k q h => by simp at h⟩
  have hl := lv_entry ([.ref b]) (n := 4) (Nat.le_of_ble_eq_true rfl)
  rw [lg_entry_eq]
  generalize (lg_sl ([.ref b]) ++ List.replicate (4 - (lg_sl ([.ref b])).length) Slot.unset).toArray = ls at hl ⊢
  have hl : lv_has ls 4 [(0, .ref b)] := hl
  refine va_new (ci := 10) (fs := [.null, .null, .null, .null, .int 0, .null, .null, .null, .null, .null, .null, .null, .null, .null]) (C := RX10) (T := TX10) (N := 14) hx hb hts (fun w h => (List.mem_filter.mp (inWX100 w h)).1) tyX10 tyX10_ok hown (hts _ n1) (hts _ i10) (hts _ n2) hK hP hD hS hA rfl l_nulX (Nat.le_of_ble_eq_true rfl) (Nat.le_of_ble_eq_true rfl) dL_law_0 (fun q1 H hP hD hS => ?_)
  have hP : va_P D vwCl ((q1, .inr (10, [.null, .null, .null, .null, .int 0, .null, .null, .null, .null, .null, .null, .null, .null, .null])) :: []) H := hP
  have hD : va_D (fun q : Nat => s.heap.size ≤ q) ((q1, .inr (10, [.null, .null, .null, .null, .int 0, .null, .null, .null, .null, .null, .null, .null, .null, .null])) :: []) := hD
  refine lv_dup (pc := 3) hx hb dL_law_3 rfl ?_
  refine q_call (pc := 4) (va_runI (As := []) (rest := [.ref q1]) ⟨hx, hb, hml, hown, htsL⟩ (l_X_init l D ci (fun q : Nat => s.heap.size ≤ q) sa [] q1) (cwI 0 htsL gL_law_X10_init rfl rfl rfl (hts _ n2) (hts _ n3) (hts _ n4) rfl (by decide +kernel) ⟨Nat.le_of_ble_eq_true rfl, Nat.le_of_ble_eq_true rfl⟩) (q_preS (As := [.ref q1]) (n1 := 0) (is1 := []) hK hA hZ hP hD hS rfl ⟨rfl, rfl, rfl⟩) rfl rfl hl.1 rfl (lv_room (Nat.le_of_ble_eq_true rfl)) dL_law_4 ⟨Nat.le_of_ble_eq_true rfl, Nat.le_of_ble_eq_true rfl⟩) hS (fun t2 locs _ hB hS => ?_)
  obtain ⟨WX, hXI, hP, hD⟩ := hB
  refine lv_astore_n (pc := 7) (lv' := [(1, .ref q1), (0, .ref b)]) hx hb dL_law_7 rfl hl (by decide) rfl (fun ls hl => ?_)
  refine va_new (pc := 8) (ci := 11) (fs := l_nulM) (C := RX11) (T := TX11) (N := 42) hx hb hts (fun w h => (List.mem_filter.mp (inWX110 w h)).1) tyX11 tyX11_ok hown (hts _ n5) (hts _ i11) (hts _ n6) hK hP hD hS hA rfl l_nulM2 (Nat.le_of_ble_eq_true rfl) (Nat.le_of_ble_eq_true rfl) dL_law_8 (fun q2 H hP hD hS => ?_)
  have hP : va_P D vwCl ((q2, .inr (11, l_nulM)) :: (WX ++ [])) H := l_swP hP
  have hD : va_D (fun q : Nat => s.heap.size ≤ q) ((q2, .inr (11, l_nulM)) :: (WX ++ [])) := l_swD hD
  refine lv_dup (pc := 11) hx hb dL_law_11 rfl ?_
  refine q_call (pc := 12) (va_runI (As := []) (rest := [.ref q2]) ⟨hx, hb, hml, hown, htsL⟩ (l_M_init l D ci (fun q : Nat => s.heap.size ≤ q) sa (WX ++ []) q2) (cwI 0 htsL gL_law_X11_init rfl rfl rfl (hts _ n6) (hts _ n7) (hts _ n8) rfl (by decide +kernel) ⟨Nat.le_of_ble_eq_true rfl, Nat.le_of_ble_eq_true rfl⟩) (q_preS (As := [.ref q2]) (n1 := 0) (is1 := []) hK hA hZ hP hD hS rfl ⟨rfl, rfl, rfl⟩) rfl rfl hl.1 rfl (lv_room (Nat.le_of_ble_eq_true rfl)) dL_law_12 ⟨Nat.le_of_ble_eq_true rfl, Nat.le_of_ble_eq_true rfl⟩) hS (fun t3 locs _ hB hS => ?_)
  obtain ⟨WM, hMI, hP, hD⟩ := hB
  rw [List.append_nil] at hP hD
  refine lv_astore_n (pc := 15) (lv' := [(2, .ref q2), (1, .ref q1), (0, .ref b)]) hx hb dL_law_15 rfl hl (by decide) rfl (fun ls hl => ?_)
  refine lv_iconst (pc := 16) (v := nI 0) hx hb dL_law_16 (by decide) ?_
  refine lv_istore_n (pc := 17) (lv' := [(3, .int (nI 0)), (2, .ref q2), (1, .ref q1), (0, .ref b)]) hx hb dL_law_17 rfl hl (by decide) rfl (fun ls hl => ?_)
  exact law_loop p l e s m below meth c b L xs D ci sa ⟨hx, hb, hml, hown, htsL, hX, hbl, hK, hZ, hr, hlocks, hL⟩ 6000 0 ls (by omega) (by omega) hl WX WM 0 _ 0 0 _ _ _ _ _ _ hXI hMI (l_swP hP) (l_swD hD) hS (Nat.le_of_ble_eq_true rfl) (Nat.le_of_ble_eq_true rfl)
end
section
set_option maxHeartbeats 4000000 in
theorem lw_walk (l : Launch) (hflags : l.flags = flags0) (b : Addr) (xs : List Int32) : MetFree l x (headSpec (Jvm.Cond.code x code maxLocals ret :: tables_1) room_1) (lw_P b xs) (fun _ _ _ _ _ => True) lw_Q := by
  refine MetFree.of_bodyS (code := code) (maxLocals := maxLocals) (ret := ret) (by decide) ?_ ?_
  · intro args s m h hn
    obtain ⟨meth, c, h1, h2, h3, h4, h5, h6, -, -⟩ := Cond.code_spec hn (atoms_spec (ws := Jvm.Cond.code x code maxLocals ret :: tables_1) h _ List.mem_cons_self)
    exact ⟨meth, c, h1, h2, h3, h4, h5, h6⟩
  · intro p e s m args below meth c s₁ B hml0 hP _
    obtain ⟨rfl, hx, hbd, hgv⟩ := hP
    obtain ⟨scr, harrAt, hlist, hof, hsmall⟩ := hx
    obtain ⟨hcb, hkn, -, -⟩ := State.arrayAt?_spec harrAt
    have hown : s.vm.findClass R_law = some m.cls := findClass_of_methodNamed B.named
    have hts0 : ∀ c ∈ (Jvm.Cond.code x code maxLocals ret :: tables_1), c.before #[Value.ref b] s = true := atoms_spec (ws := Jvm.Cond.code x code maxLocals ret :: tables_1) B.pre
    have hts : ∀ w ∈ lw_tbl, w.before #[Value.ref b] s = true := k2_hts_sels lw_privs (fun w hw => hts0 w (List.mem_cons_of_mem _ hw)) lw_privs_ok
    have hml : c.maxLocals = 4 := B.maxLocals_eq (hts0 _ List.mem_cons_self)
    have X₀ : Stand p l e room_1 s m #[Value.ref b] below meth c s₁ [] 0 0 := Stand.of_body B
    have hh0 : s₁.heap = s.heap := by rw [B.state]; rfl
    have hsz : scr.slots.size = xs.length := by rw [← Array.length_toList, hlist, List.length_map]
    have hval : ∀ j : Nat, j < xs.length → scr.slots[j]? = some (.int (xs.getD j 0)) := fun j hj => by
      rw [← Array.getElem?_toList, hlist]
      simp [hj]
    have hbl : b < s.heap.size := (Array.getElem?_eq_some_iff.mp hcb).1
    have hX : va_X b xs.length (fun j => xs.getD j 0) s s.heap := ⟨scr, hcb, hof, hkn, hsz, hval⟩
    have K : W p l e room_1 s m #[Value.ref b] below meth c s₁.heap [] 0 0 (lw_Z below #[Value.ref b] s) (entryFrame m ([Value.ref b] : List Value).toArray 4) := by
      rw [hh0]
      exact whole_start l hflags hbd ⟨B.exec, B.bytes, B.returns, hml, hown, hts, hX, hbl, B.notSynchronized, hgv⟩
    obtain ⟨t, a1, o, b1, b2, b3⟩ := K s₁ rfl X₀
    exact ⟨t, o, a1, b1, b2, b3⟩
theorem lw_pre_spec {args : Array Value} {s : State} (h : (Jvm.Cond.and given_1 narrow_1).before args s = true) (hr : rest_1_c.before args s = true) : ∃ (b : Addr) (xs : List Int32), lw_P b xs args s := by
  have hs := flat_of_before _ h
  have hq := flat_of_before _ hr
  have hc : (Cond.count 1).before args s = true := hs _ (by decide +kernel)
  have harr : (Cond.arrayOf (.arg 0) .int).before args s = true := hs _ (by decide +kernel)
  have hle : (Cond.le (.length (.arg 0)) (.int 4096)).before args s = true := hs _ (by decide +kernel)
  have hlen : (Cond.isInt (.length (.arg 0))).before args s = true := hq _ (by decide +kernel)
  have hall : (Cond.all (.arg 0) (.isInt (.elem (.arg 0) (.index 0)))).before args s = true := hq _ (by decide +kernel)
  obtain ⟨b, xs, hb, hx⟩ := State.ints_of_pre rfl harr hlen hall
  have hsm : xs.length < 2 ^ 31 := hx.choose_spec.2.2.2
  have hev : (Term.length (.arg 0)).eval args s none [] s = some (.int xs.length.toInt32) := hx.length_eval hb
  have hv := Cond.le_ints hev (show (Term.int 4096).eval args s none [] s = some (.int 4096) from rfl)
  have hd : xs.length.toInt32 ≤ 4096 := by
    simpa [Cond.before, Cond.holds, hv] using hle
  have hN : xs.length ≤ 4096 := (Int32.ofNat_le_ofNat hsm (by decide)).mp (show Int32.ofNat xs.length ≤ Int32.ofNat 4096 from hd)
  exact ⟨b, xs, Cond.one_arg hc (show args[0]? = some (.ref b) from hb), hx, hN, h⟩
theorem lw_comes (l : Launch) (hflags : l.flags = flags0) : Comes l x (Jvm.Cond.code x code maxLocals ret :: tables_1) room_1 (fun tb e args s => Calls_1 tb e args s ∧ rest_1 tb e args s ∧ Pre_1 tb e args s)
    (fun _ _ args s o t => lw_Q args s o t) := by
  intro p e ha hc hk s m args below hf hfit hheap happ hpre
  obtain ⟨b, xs, hP⟩ := lw_pre_spec hpre.2.2 hpre.2.1
  obtain ⟨k, o, h1, h2, h3, hQ⟩ := lw_walk l hflags b xs p e ha hc hk s m args below hf ((Spec.applies_iff_loose hf).mp happ).1 hP trivial
  exact ⟨k, o, h1, h2, h3, hQ⟩
theorem lw_frame {s t : State} {o : Outcome} {args : Array Value} (h : Framed s o t [] 600000 7302250) :
    Framed s o t (fieldLocs frame_1_writes args s ++ arrayLocs frame_1_arrays args s ++ staticLocs frame_1_statics s) 600000 7302250 := h
theorem lw_limb (L : Cond) (hL : ∀ (args : Array Value) (s t : State), L.after args s (.returned (some (.int 1))) t = true) :
    ArmFor flags0 classFile x code maxLocals ret World_1 tables_1 room_1 Calls_1 rest_1 Pre_1
      (fun tb e a s o t => postC L tb e a s o t ∧ Framed s o t (fieldLocs frame_1_writes a s ++ arrayLocs frame_1_arrays a s ++ staticLocs frame_1_statics s) 600000 7302250) := by
  intro l hflags _ _ p e ha hc hk s m args below hf hfit hheap happ hpre
  obtain ⟨k, o, h1, h2, h3, rfl, hF⟩ := lw_comes l hflags p e ha hc hk s m args below hf hfit hheap happ hpre
  exact ⟨k, _, h1, h2, h3, hL args s _, lw_frame hF⟩
theorem i_vc : Claimed_1_1 ∧ Claimed_1_2 := ⟨lw_limb limb_1_1 (fun args s t => by simp [limb_1_1, Cond.after, Cond.holds, Cond.value]), lw_limb limb_1_2 (fun args s t => Cond.after_iff.mpr (by
  first | (rw [show limb_1_2 = Cond.eq .result (.int 1) from rfl, Cond.eq_ints (x := 1) (y := 1) rfl rfl]; simp; done) | (simp [limb_1_2, Cond.value, Term.eval]; done)))⟩
end
