/-! THE PARSER: products, sums, ands, expressions; need, readNumber -/
noncomputable def pz_L2 (a : Nat) : List ai_V := [pz_this, .inl (0, .ofNat a)]
noncomputable def pz_L3 (a : Nat) : List ai_V := [pz_this, .inl (0, .ofNat a), pz_u]
noncomputable def pz_Lo (a : Nat) (o : Int) : List ai_V := [pz_this, .inl (0, .ofNat a), .inl (0, o)]
noncomputable def pz_Tis : List (Nat × us_C) := [(191, cn_m_is6), (191, cn_m_is7), (191, cn_m_is8), (191, cn_m_is9), (191, cn_m_is10), (191, cn_m_is1), (191, cn_m_is2), (191, cn_m_is3), (191, cn_m_is4), (191, cn_m_is5)]
theorem pz_Tis_ok : lt_all 40 pz_Tis := ⟨cp_m_is6, cp_m_is7, cp_m_is8, cp_m_is9, cp_m_is10, cp_m_is1, cp_m_is2, cp_m_is3, cp_m_is4, cp_m_is5, trivial⟩
theorem pz_kP : ∀ a, a < 7 → (pz_fk 197 196 2 55 (.ofNat a) (pz_L3 a) && pz_lk [] 197 196 5 39 44 49 55 (.ofNat a) (pz_L3 a) [(pz_Lo a 3, 3), (pz_Lo a 4, 4)]) = true := by decide +kernel
theorem pz_kS : ∀ a, a < 7 → (pz_fk 198 197 2 55 (.ofNat a) (pz_L3 a) && pz_lk [] 198 197 5 39 44 49 55 (.ofNat a) (pz_L3 a) [(pz_Lo a 1, 1), (pz_Lo a 2, 2)]) = true := by decide +kernel
theorem pz_kA : ∀ a, a < 7 → (pz_fk 200 199 2 33 (.ofNat a) (pz_L2 a) && pz_lk pz_Tis 200 199 5 16 21 27 33 (.ofNat a) (pz_L2 a) [(pz_L2 a, 7)]) = true := by decide +kernel
theorem pz_kX : ∀ a, a < 7 → (pz_fk 201 200 64 7 (.ofNat a) (pz_L3 a) && pz_lk pz_Tis 201 200 67 78 83 89 95 (.ofNat a) (pz_L3 a) [(pz_L3 a, 8)]) = true := by decide +kernel
theorem pz_pl : (ls_plain 192 = true ∧ ls_plain 193 = true ∧ ls_plain 196 = true ∧ ls_plain 197 = true ∧ ls_plain 198 = true ∧ ls_plain 199 = true ∧ ls_plain 200 = true ∧ ls_plain 201 = true) ∧ (ct_bud 192 = (0, 0) ∧ ct_bud 193 = (0, 0) ∧ ct_bud 196 = (0, 0) ∧ ct_bud 197 = (0, 0) ∧ ct_bud 198 = (0, 0) ∧ ct_bud 199 = (0, 0) ∧ ct_bud 200 = (0, 0) ∧ ct_bud 201 = (0, 0)) ∧ ((ct_mt 192).2.2.1 = 2 ∧ (ct_mt 193).2.2.1 = 2 ∧ (ct_mt 196).2.2.1 = 3 ∧ (ct_mt 197).2.2.1 = 3 ∧ (ct_mt 198).2.2.1 = 3 ∧ (ct_mt 199).2.2.1 = 4 ∧ (ct_mt 200).2.2.1 = 2 ∧ (ct_mt 201).2.2.1 = 3) ∧ ((ct_mt 192).2.2.2.1 = none ∧ (ct_mt 196).2.2.2.1 = none ∧ (ct_mt 197).2.2.2.1 = none ∧ (ct_mt 198).2.2.2.1 = none ∧ (ct_mt 199).2.2.2.1 = none ∧ (ct_mt 200).2.2.2.1 = none ∧ (ct_mt 201).2.2.2.1 = none) := by decide +kernel
theorem pz_dc : decode (ct_mt 197).2.1 55 = .ok (.return_, 1) ∧ decode (ct_mt 198).2.1 55 = .ok (.return_, 1) ∧ decode (ct_mt 200).2.1 33 = .ok (.return_, 1) ∧ decode (ct_mt 201).2.1 7 = .ok (.return_, 1) ∧ decode (ct_mt 201).2.1 95 = .ok (.return_, 1) ∧ decode (ct_mt 192).2.1 31 = .ok (.return_, 1) ∧ decode (ct_mt 199).2.1 23 = .ok (.return_, 1) ∧ decode (ct_mt 199).2.1 106 = .ok (.return_, 1) ∧ decode (ct_mt 196).2.1 7 = .ok (.return_, 1) ∧ decode (ct_mt 196).2.1 113 = .ok (.return_, 1) := by decide +kernel
section PF
variable {n M M' : Nat} {b : Bool} {a : Nat}
theorem pz_prod (ha : a < 7) (hn : 45 ≤ n) (hsub : ∀ vs : List Int32, vs.map Int32.toInt = [.ofNat a] → pz_Ct n 196 false vs (pz_XP b) (pz_X M')) (hM : M' + 1 ≤ M) (hM2 : 2 ≤ M) : ∀ vs : List Int32, vs.map Int32.toInt = [.ofNat a] → pz_Ct (n + 1) 197 false vs (pz_XP b) (pz_X M) := by
  have h := pz_kP a ha
  rw [Bool.and_eq_true] at h
  obtain ⟨⟨l1, l2, l3, l4, l5, l6, l7, l8⟩, ⟨b1, b2, b3, b4, b5, b6, b7, b8⟩, ⟨n1, n2, n3, n4, n5, n6, n7, n8⟩, v1, v3, v4, v5, v6, v7, v8⟩ := pz_pl
  exact pz_fun (T := []) (k0 := 0) h.1 h.2 (by rw [n4]; rfl) l4 l3 (by omega) b3 v4 pz_dc.1 pz_dc.1 (show lt_all 0 [] from trivial) (by omega) hn hsub hM hM2
theorem pz_sum (ha : a < 7) (hn : 45 ≤ n) (hsub : ∀ vs : List Int32, vs.map Int32.toInt = [.ofNat a] → pz_Ct n 197 false vs (pz_XP b) (pz_X M')) (hM : M' + 1 ≤ M) (hM2 : 2 ≤ M) : ∀ vs : List Int32, vs.map Int32.toInt = [.ofNat a] → pz_Ct (n + 1) 198 false vs (pz_XP b) (pz_X M) := by
  have h := pz_kS a ha
  rw [Bool.and_eq_true] at h
  obtain ⟨⟨l1, l2, l3, l4, l5, l6, l7, l8⟩, ⟨b1, b2, b3, b4, b5, b6, b7, b8⟩, ⟨n1, n2, n3, n4, n5, n6, n7, n8⟩, v1, v3, v4, v5, v6, v7, v8⟩ := pz_pl
  exact pz_fun (T := []) (k0 := 0) h.1 h.2 (by rw [n5]; rfl) l5 l4 (by omega) b4 v5 pz_dc.2.1 pz_dc.2.1 (show lt_all 0 [] from trivial) (by omega) hn hsub hM hM2
theorem pz_and (ha : a < 7) (hn : 45 ≤ n) (hsub : ∀ vs : List Int32, vs.map Int32.toInt = [.ofNat a] → pz_Ct n 199 false vs (pz_XP b) (pz_X M')) (hM : M' + 1 ≤ M) (hM2 : 2 ≤ M) : ∀ vs : List Int32, vs.map Int32.toInt = [.ofNat a] → pz_Ct (n + 1) 200 false vs (pz_XP b) (pz_X M) := by
  have h := pz_kA a ha
  rw [Bool.and_eq_true] at h
  obtain ⟨⟨l1, l2, l3, l4, l5, l6, l7, l8⟩, ⟨b1, b2, b3, b4, b5, b6, b7, b8⟩, ⟨n1, n2, n3, n4, n5, n6, n7, n8⟩, v1, v3, v4, v5, v6, v7, v8⟩ := pz_pl
  exact pz_fun (T := pz_Tis) (k0 := 40) h.1 h.2 (by rw [n7]; rfl) l7 l6 (by omega) b6 v7 pz_dc.2.2.1 pz_dc.2.2.1 pz_Tis_ok (by omega) hn hsub hM hM2
theorem pz_expr (ha : a < 7) (hn : 45 ≤ n) (hsub : ∀ vs : List Int32, vs.map Int32.toInt = [.ofNat a] → pz_Ct n 200 false vs (pz_XP b) (pz_X M')) (hM : M' + 1 ≤ M) (hM2 : 2 ≤ M) : ∀ vs : List Int32, vs.map Int32.toInt = [.ofNat a] → pz_Ct (n + 1) 201 false vs (pz_XP b) (pz_X M) := by
  have h := pz_kX a ha
  rw [Bool.and_eq_true] at h
  obtain ⟨⟨l1, l2, l3, l4, l5, l6, l7, l8⟩, ⟨b1, b2, b3, b4, b5, b6, b7, b8⟩, ⟨n1, n2, n3, n4, n5, n6, n7, n8⟩, v1, v3, v4, v5, v6, v7, v8⟩ := pz_pl
  exact pz_fun (T := pz_Tis) (k0 := 40) h.1 h.2 (by rw [n8]; rfl) l8 l7 (by omega) b7 v8 pz_dc.2.2.2.2.1 pz_dc.2.2.2.1 pz_Tis_ok (by omega) hn hsub hM hM2
end PF
