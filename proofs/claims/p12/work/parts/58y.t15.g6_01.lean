/-! TEXTS (the class): product, sum, comparison -/
noncomputable def ga_4 (u v : ai_V) : List ai_V := [wa_r 84, wa_i 392, u, v]
noncomputable def ga_3 (u : ai_V) : List ai_V := [wa_r 84, wa_i 392, u]
theorem ga_pr_k : ga_lk 95 96 2 7 76 57 62 67 (ga_4 wa_u wa_u) (ga_4 wa_u wa_u) (ga_4 (wa_i 393) wa_u) (ga_4 wa_u wa_u) (fun o => ga_4 (wa_i 393) (gz_n o)) [] 3 [(42, -8), (47, -9)] [(0, 41), (43, 46), (48, 255)] = true := by decide +kernel
theorem ga_su_k : ga_lk 94 95 2 7 76 57 62 67 (ga_4 wa_u wa_u) (ga_4 wa_u wa_u) (ga_4 (wa_i 393) wa_u) (ga_4 wa_u wa_u) (fun o => ga_4 (wa_i 393) (gz_n o)) [] 3 [(43, -6), (45, -7)] [(0, 42), (44, 44), (46, 255)] = true := by decide +kernel
theorem ga_an_k : ga_lk 91 92 2 7 51 31 36 42 (ga_3 wa_u) (ga_3 wa_u) (ga_3 (wa_i 393)) (ga_3 wa_u) (fun _ => ga_3 (wa_i 393)) [] 2 [(-13, -13)] [(-17, -14), (-12, -1)] = true := by decide +kernel
theorem ga_ex_k : ga_lk 90 91 53 58 102 82 87 93 (ga_3 wa_u) (ga_3 wa_u) (ga_3 (wa_i 393)) (ga_3 wa_u) (fun _ => ga_3 (wa_i 393)) [(392, (0, 5))] 2 [(-14, -14)] [(-17, -15), (-13, -1)] = true := by decide +kernel
theorem ga_l_l : (ct_mt 95).2.2.1 = 4 ∧ (ct_mt 94).2.2.1 = 4 ∧ (ct_mt 93).2.2.1 = 3 ∧ (ct_mt 92).2.2.1 = 4 ∧ (ct_mt 91).2.2.1 = 3 ∧ (ct_mt 90).2.2.1 = 3 := by decide +kernel
section GAO
variable {A : Nat → Int} {N n : Nat} {E : ps_S → ps_S} {a : Int}
theorem ga_cov3 {tests ivs : List (Int × Int)} (h : (List.range 256).all (fun v => tests.any (fun q => ai_eq (.ofNat v) q.1) || ivs.any (fun z => ai_le z.1 (.ofNat v) && ai_le (.ofNat v) z.2)) = true) (hA : ps_A A N) (p : Nat) (t : ps_tk A N p = 3) : (∃ q ∈ tests, ps_vl A N p = q.1) ∨ ∃ z ∈ ivs, z.1 ≤ ps_vl A N p ∧ ps_vl A N p ≤ z.2 := by
  have rg := (ps_vl_rg hA p).1 t
  obtain ⟨v, hv⟩ : ∃ v : Nat, ps_vl A N p = (v : Int) := ⟨(ps_vl A N p).toNat, by omega⟩
  have g := List.all_eq_true.mp h v (List.mem_range.mpr (by omega))
  rw [Bool.or_eq_true] at g
  rw [hv]
  rcases g with g | g
  · obtain ⟨q, hq, e⟩ := List.any_eq_true.mp g
    exact Or.inl ⟨q, hq, ai_eq_iff.mp e⟩
  · obtain ⟨z, hz, e⟩ := List.any_eq_true.mp g
    rw [Bool.and_eq_true] at e
    exact Or.inr ⟨z, hz, ai_le_iff.mp e.1, ai_le_iff.mp e.2⟩
theorem ga_cov2 {tests ivs : List (Int × Int)} (h : (List.range 17).all (fun v => tests.any (fun q => ai_eq (.negSucc v) q.1) || ivs.any (fun z => ai_le z.1 (.negSucc v) && ai_le (.negSucc v) z.2)) = true) (hA : ps_A A N) (p : Nat) (t : ps_tk A N p = 2) : (∃ q ∈ tests, ps_vl A N p = q.1) ∨ ∃ z ∈ ivs, z.1 ≤ ps_vl A N p ∧ ps_vl A N p ≤ z.2 := by
  have rg := (ps_vl_rg hA p).2 t
  obtain ⟨v, hv⟩ : ∃ v : Nat, ps_vl A N p = Int.negSucc v := ⟨(-1 - ps_vl A N p).toNat, by omega⟩
  have g := List.all_eq_true.mp h v (List.mem_range.mpr (by omega))
  rw [Bool.or_eq_true] at g
  rw [hv]
  rcases g with g | g
  · obtain ⟨q, hq, e⟩ := List.any_eq_true.mp g
    exact Or.inl ⟨q, hq, ai_eq_iff.mp e⟩
  · obtain ⟨z, hz, e⟩ := List.any_eq_true.mp g
    rw [Bool.and_eq_true] at e
    exact Or.inr ⟨z, hz, ai_le_iff.mp e.1, ai_le_iff.mp e.2⟩
theorem ga_prM (hn : 10 ≤ n) (ha5 : 0 ≤ a ∧ a ≤ 5) (hok : ∀ σ, ps_ok N σ (E σ)) (hE : ∀ m, n = m + 1 → ∀ σ, ga_K m 90 A N σ (E σ) (a + 1)) {σ : ps_S} : ga_K (n + 1) 95 A N σ (ps_pr A N E σ) a := by
  obtain ⟨m, rfl⟩ : ∃ m, n = m + 1 := ⟨n - 1, by omega⟩
  exact ga_loopM (B := ps_pt A N E) (by omega) ga_pr_k (ga_b0 95 (by decide)).2 (by rw [ga_l_l.1]; rfl) (ga_b0 96 (by decide)) (by omega) (fun τ => ps_op_og) (ga_cov3 (by decide +kernel)) (fun hA τ => ps_ok_pt hA hok) (fun τ => ga_qM (by omega) ha5 hok (hE m rfl)) (fun _ _ q hq => by cases hq)
theorem ga_suM (hn : 11 ≤ n) (ha5 : 0 ≤ a ∧ a ≤ 5) (hok : ∀ σ, ps_ok N σ (E σ)) (hE : ∀ m, n = m + 2 → ∀ σ, ga_K m 90 A N σ (E σ) (a + 1)) {σ : ps_S} : ga_K (n + 1) 94 A N σ (ps_su A N E σ) a := by
  obtain ⟨m, rfl⟩ : ∃ m, n = m + 1 := ⟨n - 1, by omega⟩
  exact ga_loopM (B := ps_pr A N E) (by omega) ga_su_k (ga_b0 94 (by decide)).2 (by rw [ga_l_l.2.1]; rfl) (ga_b0 95 (by decide)) (by omega) (fun τ => ps_op_og) (ga_cov3 (by decide +kernel)) (fun hA τ => ps_ok_pr hA hok) (fun τ => ga_prM (by omega) ha5 hok (fun k hk => hE k (by omega))) (fun _ _ q hq => by cases hq)
end GAO
