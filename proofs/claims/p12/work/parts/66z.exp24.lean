/-! THE LEAST (the reference): a mill is told -/
theorem am_n_min {A : Nat → Int} {K : Nat} : ∀ {d k : Nat}, k + d = K → am_nZ A k = min k (am_nZ A K)
  | 0, k, h => by
    have e : k = K := by omega
    rw [← e]
    exact (Nat.min_eq_right (am_n_leZ k)).symm
  | d + 1, k, h => by
    have ih := am_n_min (A := A) (K := K) (d := d) (k := k + 1) (by omega)
    have a := am_n_leZ (A := A) k
    have b := am_n_leZ (A := A) K
    rw [am_n_sZ] at ih
    by_cases c : am_nZ A k = k ∧ A (k + 1) ≠ -1
    · rw [if_pos c] at ih
      omega
    · rw [if_neg c] at ih
      by_cases e : am_nZ A k = k
      · have z : A (k + 1) = -1 := Decidable.byContradiction (fun w => c ⟨e, w⟩)
        have g := am_n_stZ e z d
        rw [show k + 1 + d = K by omega] at g
        omega
      · omega
noncomputable def zt_a : List ai_V := [wa_r 264, wa_i 727, wa_i 728, wa_i 729, wa_i 730]
noncomputable def zt_L (m q : Nat) (a b c : ai_V) : List ai_V := [wa_r 264, wa_k m, wa_k q, wa_i 729, wa_i 730, a, b, c]
noncomputable def zt_h (m q : Nat) : List ai_V := zt_L m q wa_u (wa_i 732) wa_u
noncomputable def zt_v (m q : Nat) : List ai_V := zt_L m q wa_u (wa_i 732) (wa_i 733)
noncomputable def zt_S (m : Nat) : List ai_V := [wa_k 0, wa_k (8 * m), wa_r 299]
noncomputable def zt_bx (m : Nat) : pt_X := [(0, 729, 0), (1, 0, .ofNat m), (2, 9, 0), (1, 0, 1), (2, 5, 0)]
noncomputable def zt_hx (m h : Nat) : pt_X := [(0, 153 + m, 0), (0, 145 + m, 0), (0, 716 + h, 0), (2, 1, 0), (2, 11, 0)]
noncomputable def zt_cx (m h q : Nat) : pt_X := [(0, 185 + 4 * m + q, 0), (1, 0, 0), (0, 145 + m, 0), (0, 716 + h, 0), (2, 1, 0), (2, 11, 0), (2, 12, 0)]
noncomputable def zt_B (m q : Nat) : List (Nat × Int × Int) := [(716, (0, 2)), (716 + 1, (0, 2)), (716 + 2, (0, 2)), (153 + m, (0, 7)), (185 + 4 * m + q, (0, 7)), (730, (0, 7))]
noncomputable def zt_W (m h k : Nat) (x y : pt_X) : List (Nat × pt_X) := [(137 + m, gz_k (.ofNat k)), (141 + m, gz_k (.ofNat h)), (700 + m, x), (704 + m, y)]
noncomputable def zt_e (m q h k : Nat) (x y : pt_X) (g : List (Nat × pt_X × pt_X)) : pt_E := ((179, 0, 0), (zt_L m q wa_u wa_u wa_u, zt_S m), zt_W m h k x y, g)
noncomputable abbrev zt_r (m q h k : Nat) (b : Int × Int) (Es : List pt_E) : Bool := pt_row zyY 219 [179] true (0, 0, 0) (zt_L m q wa_u wa_u wa_u) [] [(137 + m, .ofNat k), (141 + m, .ofNat h)] ((92, b) :: zt_B m q) [] [297, 298] Es
noncomputable def zt_b0 (m : Nat) : List (Nat × pt_X × pt_X) := [(0, gz_k 0, zt_bx m), (0, zt_bx m, gz_k 0)]
noncomputable def zt_E (m q h k : Nat) : List pt_E := match k with
  | 2 => [zt_e m q h k (gz_p 730) (gz_p 730) []]
  | 3 => [zt_e m q h k (gz_k 0) (zt_cx m h q) []]
  | _ => [zt_e m q h k (gz_k 0) (gz_k 0) (zt_b0 m), zt_e m q h k (gz_p (153 + m)) (zt_hx m h) [(0, gz_k 1, zt_bx m)]]
noncomputable def zt_g1 (m : Nat) : Bool := (List.range 4).all (fun q => (List.range 3).all (fun h => (List.range 4).all (fun k => zt_r m q h k (.ofNat h, .ofNat h) [zt_e m q h k (gz_k 0) (gz_k 0) []])))
noncomputable def zt_g2 (b m : Nat) : Bool := (List.range 4).all (fun q => (List.range 3).all (fun h => (List.range 4).all (fun k => zt_r m q h k (zs_sl h b) (zt_E m q h k))))
