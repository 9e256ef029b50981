/-! TEXTS (the class): feed -/
noncomputable def fd_s (i : Nat) : Int := 24 - 8 * (i : Int)
/-- the i-th byte of a number, the highest first -/
noncomputable def fd_b (v : Int) (i : Nat) : Int := ai_op 5 (ai_op 9 v (fd_s i)) 255
theorem fd_hi : ∀ j, j < 32 → 8 ≤ j → (255#32).getLsbD j = false := by decide +kernel
theorem fd_bv (x : BitVec 32) {k : Nat} (hk : k ≤ 24) : (x >>> k) &&& 255#32 = (x.sshiftRight k) &&& 255#32 := by
  apply BitVec.eq_of_getLsbD_eq
  intro j hj
  rw [BitVec.getLsbD_and, BitVec.getLsbD_and]
  by_cases h8 : j < 8
  · have e : (x >>> k).getLsbD j = (x.sshiftRight k).getLsbD j := by
      rw [BitVec.getLsbD_ushiftRight, BitVec.getLsbD_sshiftRight, if_pos (by omega), decide_eq_false (by omega)]
      simp
    rw [e]
  · rw [fd_hi j hj (by omega), Bool.and_false, Bool.and_false]
theorem fd_k9 : ∀ i, i < 4 → (Int32.ofInt (fd_s i) &&& 31).toBitVec.smod 32 = BitVec.ofNat 32 (24 - 8 * i) := by decide +kernel
theorem fd_k10 : ∀ i, i < 4 → (UInt32.mod ((Int32.ofInt (fd_s i)).toUInt32 &&& Int32.toUInt32 31) 32).toBitVec = BitVec.ofNat 32 (24 - 8 * i) := by decide +kernel
theorem fd_u (v : Int) (i : Nat) (hi : i < 4) : ai_op 5 (ai_op 10 v (fd_s i)) 255 = fd_b v i := by
  have h9 : (Int32.ofInt v).toBitVec.sshiftRight' ((Int32.ofInt (fd_s i) &&& 31).toBitVec.smod 32) = (Int32.ofInt v).toBitVec.sshiftRight (24 - 8 * i) := by
    rw [fd_k9 i hi, BitVec.sshiftRight_eq', BitVec.toNat_ofNat, Nat.mod_eq_of_lt (by omega)]
  have h10 : (Int32.ofInt v).toBitVec >>> (UInt32.mod ((Int32.ofInt (fd_s i)).toUInt32 &&& Int32.toUInt32 31) 32).toBitVec = (Int32.ofInt v).toBitVec >>> (24 - 8 * i) := by
    rw [fd_k10 i hi, BitVec.ushiftRight_eq', BitVec.toNat_ofNat, Nat.mod_eq_of_lt (by omega)]
  have e9 : ai_op 9 v (fd_s i) = ((Int32.ofInt v) >>> ((Int32.ofInt (fd_s i)) &&& 31)).toInt := rfl
  have e10 : ai_op 10 v (fd_s i) = ((Int32.ofInt v).toUInt32 >>> ((Int32.ofInt (fd_s i)).toUInt32 &&& Int32.toUInt32 31)).toInt32.toInt := rfl
  unfold fd_b
  rw [e9, e10]
  show (Int32.ofInt ((Int32.ofInt v).toUInt32 >>> ((Int32.ofInt (fd_s i)).toUInt32 &&& Int32.toUInt32 31)).toInt32.toInt &&& Int32.ofInt 255).toInt = (Int32.ofInt ((Int32.ofInt v) >>> ((Int32.ofInt (fd_s i)) &&& 31)).toInt &&& Int32.ofInt 255).toInt
  rw [Int32.ofInt_toInt, Int32.ofInt_toInt]
  show (((Int32.ofInt v).toBitVec >>> (UInt32.mod ((Int32.ofInt (fd_s i)).toUInt32 &&& Int32.toUInt32 31) 32).toBitVec) &&& 255#32).toInt = (((Int32.ofInt v).toBitVec.sshiftRight' ((Int32.ofInt (fd_s i) &&& 31).toBitVec.smod 32)) &&& 255#32).toInt
  rw [h9, h10, fd_bv _ (by omega)]
theorem fd_r (v : Int) (i : Nat) : 0 ≤ fd_b v i ∧ fd_b v i ≤ 255 := by
  unfold fd_b
  show 0 ≤ ((Int32.ofInt (ai_op 9 v (fd_s i))).toBitVec &&& 255#32).toInt ∧ ((Int32.ofInt (ai_op 9 v (fd_s i))).toBitVec &&& 255#32).toInt ≤ 255
  have h : ((Int32.ofInt (ai_op 9 v (fd_s i))).toBitVec &&& 255#32).toNat ≤ 255 := by
    rw [BitVec.toNat_and]
    exact Nat.and_le_right
  rw [BitVec.toInt_eq_toNat_of_lt (by omega)]
  omega
/-- i bytes of a number behind the first b -/
noncomputable def fd_M (q : Nat) (M : Nat → Nat → Int) (b i : Nat) (v : Int) : Nat → Nat → Int := fun z x => if z = q ∧ b ≤ x ∧ x < b + i then fd_b v (x - b) else M z x
/-- i bytes of numbers behind the first b -/
noncomputable def fd_K (q : Nat) (M : Nat → Nat → Int) (b i : Nat) (vs : Nat → Int) : Nat → Nat → Int := fun z x => if z = q ∧ b ≤ x ∧ x < b + i then fd_b (vs ((x - b) / 4)) ((x - b) % 4) else M z x
theorem fd_M0 {q b : Nat} {M : Nat → Nat → Int} {v : Int} : fd_M q M b 0 v = M := by
  funext z x
  exact if_neg (by omega)
theorem fd_K0 {q b : Nat} {M : Nat → Nat → Int} {vs : Nat → Int} : fd_K q M b 0 vs = M := by
  funext z x
  exact if_neg (by omega)
theorem fd_Ms {q b i : Nat} {M : Nat → Nat → Int} {v : Int} : pt_sto (fd_M q M b i v) q (b + i) (fd_b v i) = fd_M q M b (i + 1) v := by
  funext z x
  unfold pt_sto fd_M
  by_cases e : z = q ∧ x = b + i
  · rw [if_pos e, if_pos (by omega), show x - b = i by omega]
  · rw [if_neg e]
    by_cases e2 : z = q ∧ b ≤ x ∧ x < b + i
    · rw [if_pos e2, if_pos (by omega)]
    · rw [if_neg e2, if_neg (by omega)]
theorem fd_Ks {q b i : Nat} {M : Nat → Nat → Int} {vs : Nat → Int} : pt_sto (fd_K q M b i vs) q (b + i) (fd_b (vs (i / 4)) (i % 4)) = fd_K q M b (i + 1) vs := by
  funext z x
  unfold pt_sto fd_K
  by_cases e : z = q ∧ x = b + i
  · rw [if_pos e, if_pos (by omega), show x - b = i by omega]
  · rw [if_neg e]
    by_cases e2 : z = q ∧ b ≤ x ∧ x < b + i
    · rw [if_pos e2, if_pos (by omega)]
    · rw [if_neg e2, if_neg (by omega)]
theorem fd_MK {q b k : Nat} {M : Nat → Nat → Int} {vs : Nat → Int} : fd_M q (fd_K q M b (4 * k) vs) (b + 4 * k) 4 (vs k) = fd_K q M b (4 * (k + 1)) vs := by
  funext z x
  unfold fd_M fd_K
  by_cases e : z = q ∧ b + 4 * k ≤ x ∧ x < b + 4 * k + 4
  · rw [if_pos e, if_pos (by omega), show (x - b) / 4 = k by omega, show (x - b) % 4 = x - (b + 4 * k) by omega]
  · rw [if_neg e]
    by_cases e2 : z = q ∧ b ≤ x ∧ x < b + 4 * k
    · rw [if_pos e2, if_pos (by omega)]
    · rw [if_neg e2, if_neg (by omega)]
noncomputable def fd_n (i : Nat) : ai_V := .inl (0, fd_s i)
noncomputable def fd_L (u : ai_V) : List ai_V := [wa_r 84, wa_i 392, u]
theorem fd_b0 : ∀ q ∈ [86, 87, 140], ct_bud q = (0, 0) ∧ lh_plain q = true := by decide +kernel
theorem fd_n_c : (ga_rw 87 [3] true 0 (fd_L wa_u) [] 3 (fd_L (fd_n 0)) [] [] = true ∧ ga_rw 87 [32, 49] true 3 (fd_L (fd_n 4)) [] 49 (fd_L (fd_n 4)) [] [] = true) ∧
    (List.range 4).all (fun i => ga_rw 87 [32, 49] true 3 (fd_L (fd_n i)) [(75, (0, 199))] 32 (fd_L (fd_n i)) [wa_i 471, wa_i 75, wa_r 86] [(471, [(0, 392, 0), (1, 0, fd_s i), (2, 10, 0), (1, 0, 255), (2, 5, 0)])] && ga_rw 87 [3] false 33 (fd_L (fd_n i)) [(75, (0, 199))] 3 (fd_L (fd_n (i + 1))) [] [(75, gz_d 75 1)]) = true := by decide +kernel
theorem fd_n_k : pt_sck gaY 87 32 2 86 200 0 = true ∧ pt_is 7 87 49 = true ∧ (ct_mt 87).2.2.1 = 3 := by decide +kernel
theorem fd_bd : (75, ((0 : Int), (200 : Int))) ∈ gaE.2.1 := by decide +kernel
section FDN
variable {n : Nat} {Z : (Nat → Int) → (Nat → Nat → Int) → Option Int → Prop} {P : pt_P} {b : Nat} {r0 : Nat → Int} {M0 : Nat → Nat → Int}
theorem fd_nloop (h : pt_Cl n 87 gaY 0 Z P) (hb : b + 4 ≤ 200) (hz : ∀ r2, r2 75 = ((b + 4 : Nat) : Int) → (∀ t, t < 391 → t ≠ 75 → r2 t = r0 t) → Z r2 (fd_M 86 M0 b 4 (r0 392)) none) :
    ∀ (d i : Nat) (r : Nat → Int), i + d = 4 → r 75 = ((b + i : Nat) : Int) → (∀ t, t ≠ 75 → t ≠ 471 → r t = r0 t) → P (3, 0, 0) (fd_L (fd_n i)) [] r (fd_M 86 M0 b i (r0 392)) := by
  obtain ⟨hseg, henv, -, -, -, -, hst, -, -, -, -, -, -, hvret⟩ := h
  obtain ⟨⟨-, c4⟩, ci⟩ := fd_n_c
  intro d
  induction d with
  | zero =>
    intro i r hi e1 e2
    have ei : i = 4 := by omega
    subst ei
    refine hseg _ _ _ _ _ r _ _ _ _ _ _ c4 ⟨pt_m0, pt_m0, pt_m0⟩ ⟨fun _ => ?_, trivial⟩
    exact hvret (49, 0, 0) _ r _ rfl fd_n_k.2.1 (by decide +kernel) (by decide +kernel) (hz r e1 (fun t h1 h2 => e2 t h2 (by omega)))
  | succ d ih =>
    intro i r hi e1 e2
    have c := List.all_eq_true.mp ci i (List.mem_range.mpr (by omega))
    rw [Bool.and_eq_true] at c
    obtain ⟨c1, c2⟩ := c
    have bd : ∀ r2 : Nat → Int, r2 75 = ((b + i : Nat) : Int) → (0 : Int) ≤ r2 75 ∧ r2 75 ≤ 199 := fun r2 e => by omega
    refine hseg _ _ _ _ _ r _ _ _ _ _ _ c1 ⟨pt_m0, pt_m1 (bd r e1), pt_m0⟩ ⟨fun _ => ?_, trivial⟩
    obtain ⟨r1, hr1⟩ : ∃ r1, r1 = pt_up r [(471, [(0, 392, 0), (1, 0, fd_s i), (2, 10, 0), (1, 0, 255), (2, 5, 0)])] := ⟨_, rfl⟩
    show P (32, 0, 0) (fd_L (fd_n i)) (.inl (471, 0) :: .inl (75, 0) :: .inr (.inr (some (some 86))) :: []) (pt_up r [(471, [(0, 392, 0), (1, 0, fd_s i), (2, 10, 0), (1, 0, 255), (2, 5, 0)])]) _
    rw [← hr1]
    have n1 : ∀ t, t ≠ 471 → r1 t = r t := fun t x => by
      rw [hr1]
      exact if_neg x
    have s1 : r1 471 = fd_b (r0 392) i := by
      rw [hr1]
      show ai_op 5 (ai_op 10 (r 392) (fd_s i)) 255 = _
      rw [e2 392 (by omega) (by omega)]
      exact fd_u _ i (by omega)
    have b1 : r1 75 = ((b + i : Nat) : Int) := (n1 _ (by omega)).trans e1
    refine hst (32, 0, 0) _ [] r1 _ 86 200 (b + i) (75, 0) (471, 0) fd_n_k.1 (by omega) (by show r1 75 + 0 = _; omega) ?_
    have ev : ai_vx r1 (471, 0) = fd_b (r0 392) i := by
      show r1 471 + 0 = _
      rw [s1, Int.add_zero]
    rw [ev, fd_Ms]
    refine hseg _ _ _ _ _ r1 _ _ _ _ _ _ c2 ⟨pt_m0, pt_m1 (bd r1 b1), pt_m0⟩ ⟨fun _ => ?_, trivial⟩
    obtain ⟨r2, hr2⟩ : ∃ r2, r2 = pt_up r1 [(75, gz_d 75 1)] := ⟨_, rfl⟩
    show P (3, 0, 0) (fd_L (fd_n (i + 1))) [] (pt_up r1 [(75, gz_d 75 1)]) _
    rw [← hr2]
    have n2 : ∀ t, t ≠ 75 → r2 t = r1 t := fun t x => by
      rw [hr2]
      exact if_neg x
    exact ih (i + 1) r2 (by omega) (by rw [hr2]; show r1 75 + 1 = _; omega) (fun t h1 h2 => by rw [n2 t h1, n1 t h2, e2 t h1 h2])
end FDN
theorem fd_nM {n b : Nat} (hn : 4 ≤ n) (hb : b + 4 ≤ 200) : pt_Met (n + 1) 87 gaY [wa_r 84, wa_i 392] (fun r _ => r 75 = (b : Int)) (fun r M r2 M2 o => o = none ∧ r2 75 = ((b + 4 : Nat) : Int) ∧ (∀ t, t < 391 → t ≠ 75 → r2 t = r t) ∧ M2 = fd_M 86 M b 4 (r 392)) 0 := by
  refine pt_intro (L0 := fd_L wa_u) (fd_b0 87 (by decide)).2 hn gasys (by
    rw [fd_n_k.2.2]
    rfl) (fun P r M h hp => ?_)
  have h' := h
  obtain ⟨hseg, -⟩ := h'
  refine hseg _ _ _ _ _ r M _ _ _ _ _ fd_n_c.1.1 ⟨pt_m0, pt_m0, pt_m0⟩ ⟨fun _ => ?_, trivial⟩
  show P (3, 0, 0) (fd_L (fd_n 0)) [] r M
  have g := fd_nloop (r0 := r) (M0 := M) (b := b) h hb (fun r2 g1 g2 => ⟨rfl, g1, g2, rfl⟩) 4 0 r (by omega) hp (fun _ _ _ => rfl)
  rw [fd_M0] at g
  exact g
