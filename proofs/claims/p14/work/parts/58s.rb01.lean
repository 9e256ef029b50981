/-! THE NETS OF THE REFERENCE: its matrix -/
noncomputable def rb_264 : ai_V := .inr (.inr (some (some 264)))
noncomputable def rb_k (k : Nat) : ai_V := .inl (0, .ofNat k)
noncomputable def rb_q (t : Nat) : ai_V := .inr (.inl (t, 0))
noncomputable def rb_up (l o t : Nat) : Nat × pt_X := (196 + t, [(0, 196 + t, 0), (0, 174 + l, 0), (2, o, 0)])
noncomputable def rb_aW (l a b : Nat) : List (Nat × pt_X) := [rb_up l 20 (5 * a), rb_up l 20 (5 * b), rb_up l 21 (4 * a + b), rb_up l 21 (4 * b + a)]
noncomputable def rb_lW (l a b : Nat) : List (Nat × pt_X) := [(164 + l, ra_c a), (169 + l, ra_c b)]
noncomputable def rb_nL (l : Nat) : List ai_V := [rb_264, rb_k 0, rb_k l, ra_u, ra_u]
noncomputable def rb_0W : List (Nat × pt_X) := (List.range 16).map (fun q => (196 + q, ra_c 0))
theorem rb_n_0 : pt_row rbY 213 [23] true (0, 0, 0) [rb_264, rb_k 0, ra_u, ra_u, ra_u] [] [] [] [] [296] [((23, 0, 0), (rb_nL 0, []), rb_0W, [])] = true := by decide +kernel
theorem rb_n_c : (List.range 5).all (fun l => (List.range 4).all (fun a => (List.range 4).all (fun b => Nat.beq a b || pt_row rbY 213 [23, 167] true (23, 0, 0) (rb_nL l) [] [(164 + l, .ofNat a), (169 + l, .ofNat b)] [(123, (.ofNat (l + 1), 5))] [] [296] [((23, 0, 0), (rb_nL (l + 1), []), rb_lW l a b ++ rb_aW l a b, [])]))) = true := by decide +kernel
theorem rb_n_x : (List.range 6).all (fun l => pt_row rbY 213 [23, 167] true (23, 0, 0) (rb_nL l) [] [] [(123, (0, .ofNat l))] [] [] [((167, 0, 0), (rb_nL l, []), [], [])]) = true := by decide +kernel
/-- a determinant by rows and columns that are left, as the reference tells it -/
noncomputable def rb_dt : List Nat → List Nat → pt_X
  | [], _ => [(1, 0, 1)]
  | i :: rows, cols => (cols.foldl (fun (z : pt_X × Int) c => (z.1 ++ [(1, 0, z.2), (0, 196 + 4 * i + c, 0), (2, 22, 0)] ++ rb_dt rows (cols.filter (fun x => !(Nat.beq x c))) ++ [(2, 22, 0), (2, 20, 0)], -z.2)) ([(1, 0, 0)], 1)).1
noncomputable def rb_dx (pl : Nat) : pt_X := rb_dt (List.range (pl - 1)) (List.range (pl - 1))
noncomputable def rb_hx (pl i j : Nat) : pt_X := match Nat.beq (i + 1) pl || Nat.beq (j + 1) pl with
  | true => [(1, 0, 0)]
  | false => match Nat.beq ((i + j) % 2) 0 with
    | true => rb_dt ((List.range (pl - 1)).filter (fun x => !(Nat.beq x j))) ((List.range (pl - 1)).filter (fun x => !(Nat.beq x i)))
    | false => [(1, 0, 0)] ++ rb_dt ((List.range (pl - 1)).filter (fun x => !(Nat.beq x j))) ((List.range (pl - 1)).filter (fun x => !(Nat.beq x i))) ++ [(2, 21, 0)]
theorem rb_d_c : (List.range 4).all (fun p => pt_row rbY 213 [203] true (167, 0, 0) [rb_264, rb_k 0, ra_u, ra_u, ra_u] [] [(122, .ofNat (p + 1))] [] [] [] [((203, 0, 0), ([rb_264, rb_k 0, rb_k (2 ^ p - 1), rb_k 0, ra_u], []), [(122, ra_c (p + 1)), (212, rb_dx (p + 1))], [])]) = true := by decide +kernel
theorem rb_h_c : (List.range 4).all (fun p => (List.range (p + 1)).all (fun i => (List.range (p + 1)).all (fun j => match Nat.beq i p || Nat.beq j p with
  | true => pt_row rbY 212 [32, 69] true (0, 0, 0) [rb_264, rb_k i, rb_k j, ra_u, ra_u, ra_u] [] [(122, .ofNat (p + 1))] [] [] [] [((32, 0, 0), ([rb_264, rb_k i, rb_k j, ra_u, ra_u, ra_u], [rb_q 428]), [(122, ra_c (p + 1)), (428, rb_hx (p + 1) i j)], [])]
  | false => pt_row rbY 212 [32, 69] true (0, 0, 0) [rb_264, rb_k i, rb_k j, ra_u, ra_u, ra_u] [] [(122, .ofNat (p + 1))] [] [] [] [((69, 0, 0), ([rb_264, rb_k i, rb_k j, ra_u, ra_u, ra_u], [rb_q 428]), [(122, ra_c (p + 1)), (428, rb_hx (p + 1) i j)], [])]))) = true := by decide +kernel
