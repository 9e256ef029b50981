/-! THE LAW: a kind by what the script really has (printed by lawq.py) 3 -/
theorem lx_a4_flo : ∀ f, f < 12 → lx_ckA lx_T4_a (lx_b3 (.ofNat f, .ofNat f) (.negSucc 2147483647, .negSucc 32768) (.negSucc 2147483647, .ofNat 2147483647)) [] lx_P4 4 = true := fun f h => match f, h with
  | 0, _ => lx_a4_0_lo
  | 1, _ => lx_a4_1_lo
  | 2, _ => lx_a4_2_lo
  | 3, _ => lx_a4_3_lo
  | 4, _ => lx_a4_4_lo
  | 5, _ => lx_a4_5_lo
  | 6, _ => lx_a4_6_lo
  | 7, _ => lx_a4_7_lo
  | 8, _ => lx_a4_8_lo
  | 9, _ => lx_a4_9_lo
  | 10, _ => lx_a4_10_lo
  | 11, _ => lx_a4_11_lo
  | n + 12, h => absurd h (by omega)
theorem lx_a4_fin : ∀ f, f < 12 → lx_ckA lx_T4_a (lx_b3 (.ofNat f, .ofNat f) (.negSucc 32767, .ofNat 32767) (.negSucc 2147483647, .ofNat 2147483647)) [] lx_P4 4 = true := fun f h => match f, h with
  | 0, _ => lx_a4_0_in
  | 1, _ => lx_a4_1_in
  | 2, _ => lx_a4_2_in
  | 3, _ => lx_a4_3_in
  | 4, _ => lx_a4_4_in
  | 5, _ => lx_a4_5_in
  | 6, _ => lx_a4_6_in
  | 7, _ => lx_a4_7_in
  | 8, _ => lx_a4_8_in
  | 9, _ => lx_a4_9_in
  | 10, _ => lx_a4_10_in
  | 11, _ => lx_a4_11_in
  | n + 12, h => absurd h (by omega)
theorem lx_a4_fhi : ∀ f, f < 12 → lx_ckA lx_T4_a (lx_b3 (.ofNat f, .ofNat f) (.ofNat 32768, .ofNat 2147483647) (.negSucc 2147483647, .ofNat 2147483647)) [] lx_P4 4 = true := fun f h => match f, h with
  | 0, _ => lx_a4_0_hi
  | 1, _ => lx_a4_1_hi
  | 2, _ => lx_a4_2_hi
  | 3, _ => lx_a4_3_hi
  | 4, _ => lx_a4_4_hi
  | 5, _ => lx_a4_5_hi
  | 6, _ => lx_a4_6_hi
  | 7, _ => lx_a4_7_hi
  | 8, _ => lx_a4_8_hi
  | 9, _ => lx_a4_9_hi
  | 10, _ => lx_a4_10_hi
  | 11, _ => lx_a4_11_hi
  | n + 12, h => absurd h (by omega)
theorem lx_b3_cov {a b c : Int × Int} {y : Int → Int} (hy : ∀ k, ai_lo32 ≤ y k ∧ y k ≤ ai_hi32) (h1 : a.1 ≤ y 1 ∧ y 1 ≤ a.2) (h3 : b.1 ≤ y 3 ∧ y 3 ≤ b.2) (h5 : c.1 ≤ y 5 ∧ y 5 ≤ c.2) : ∀ k, 0 ≤ k → k ≤ 9 → ∃ q ∈ lx_b3 a b c k, q.1 ≤ y k ∧ y k ≤ q.2 := fun k _ _ => by
  unfold lx_b3
  split
  · rename_i e
    rw [e]
    exact ⟨_, List.mem_cons_self, h1⟩
  · split
    · rename_i e
      rw [e]
      exact ⟨_, List.mem_cons_self, h3⟩
    · split
      · rename_i e
        rw [e]
        exact ⟨_, List.mem_cons_self, h5⟩
      · exact ⟨_, List.mem_cons_self, hy k⟩
theorem lx_pc4 : lx_pc lx_P4 = true := by decide +kernel
theorem lx_u4 : lx_KA 4 := fun y hy => by
  have b1 := hy 1
  have b3 := hy 3
  have b5 := hy 5
  unfold ai_lo32 ai_hi32 at b1 b3 b5
  by_cases p1 : y 1 ≤ -1
  · skip
    by_cases z1 : y 3 ≤ -32769
    · exact ⟨_, _, _, _, lx_b3_cov hy ⟨b1.1, p1⟩ ⟨b3.1, z1⟩ b5, lx_pc4, lx_T4_a_ok, lx_a4_lo_lo⟩
    by_cases z2 : 32768 ≤ y 3
    · exact ⟨_, _, _, _, lx_b3_cov hy ⟨b1.1, p1⟩ ⟨z2, b3.2⟩ b5, lx_pc4, lx_T4_a_ok, lx_a4_lo_hi⟩
    exact ⟨_, _, _, _, lx_b3_cov hy ⟨b1.1, p1⟩ ⟨by show (-32768 : Int) ≤ y 3; omega, by show y 3 ≤ (32767 : Int); omega⟩ b5, lx_pc4, lx_T4_a_ok, lx_a4_lo_in⟩
  by_cases p2 : 12 ≤ y 1
  · skip
    by_cases z1 : y 3 ≤ -32769
    · exact ⟨_, _, _, _, lx_b3_cov hy ⟨p2, b1.2⟩ ⟨b3.1, z1⟩ b5, lx_pc4, lx_T4_a_ok, lx_a4_hi_lo⟩
    by_cases z2 : 32768 ≤ y 3
    · exact ⟨_, _, _, _, lx_b3_cov hy ⟨p2, b1.2⟩ ⟨z2, b3.2⟩ b5, lx_pc4, lx_T4_a_ok, lx_a4_hi_hi⟩
    exact ⟨_, _, _, _, lx_b3_cov hy ⟨p2, b1.2⟩ ⟨by show (-32768 : Int) ≤ y 3; omega, by show y 3 ≤ (32767 : Int); omega⟩ b5, lx_pc4, lx_T4_a_ok, lx_a4_hi_in⟩
  obtain ⟨f, hf⟩ : ∃ f : Nat, y 1 = Int.ofNat f := ⟨(y 1).toNat, by show y 1 = ((y 1).toNat : Int); omega⟩
  have hf : y 1 = (f : Int) := hf
  have h1 : Int.ofNat f ≤ y 1 ∧ y 1 ≤ Int.ofNat f := ⟨by show (f : Int) ≤ y 1; omega, by show y 1 ≤ (f : Int); omega⟩
  have hf12 : f < 12 := by omega
  by_cases z1 : y 3 ≤ -32769
  · exact ⟨_, _, _, _, lx_b3_cov hy h1 ⟨b3.1, z1⟩ b5, lx_pc4, lx_T4_a_ok, (lx_a4_flo f hf12)⟩
  by_cases z2 : 32768 ≤ y 3
  · exact ⟨_, _, _, _, lx_b3_cov hy h1 ⟨z2, b3.2⟩ b5, lx_pc4, lx_T4_a_ok, (lx_a4_fhi f hf12)⟩
  exact ⟨_, _, _, _, lx_b3_cov hy h1 ⟨by show (-32768 : Int) ≤ y 3; omega, by show y 3 ≤ (32767 : Int); omega⟩ b5, lx_pc4, lx_T4_a_ok, (lx_a4_fin f hf12)⟩
