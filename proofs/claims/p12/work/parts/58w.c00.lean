/-! write: words -/
noncomputable def wa_i (t : Nat) : ai_V := .inl (t, 0)
noncomputable def wa_k (k : Nat) : ai_V := .inl (0, .ofNat k)
noncomputable def wa_r (q : Nat) : ai_V := .inr (.inr (some (some q)))
noncomputable def wa_u : ai_V := .inr (.inr none)
noncomputable def wa_s (t : Nat) : pt_X := [(0, t, 0)]
/-- what write answers -/
noncomputable def wv_r (sz so at' v : Int) : Int := if sz = -1 then 1 else if at' < 0 ∨ sz ≤ at' then 3 else if so = 2 ∧ (v < -32768 ∨ 32767 < v) then 4 else 0
theorem wa_up_self {r : Nat → Int} (h0 : r 0 = 0) : ∀ {W : List (Nat × pt_X)}, (∀ q ∈ W, q.2 = pt_xr (q.1, 0)) → pt_up r W = r
  | [], _ => rfl
  | q :: W, h => by
    have ih := wa_up_self h0 (fun z hz => h z (List.mem_cons_of_mem _ hz))
    funext t
    unfold pt_up
    by_cases e : t = q.1
    · rw [if_pos e, h q List.mem_cons_self, pt_xr_ok h0, e]
      exact Int.add_zero _
    · rw [if_neg e, ih]
theorem wa_mlt {NL : Nat} {r r2 : Nat → Int} {z t : Nat} {v : Option Int} (h : t < NL) : pt_mrg NL r r2 z v t = r2 t := if_pos h
theorem wa_mz {NL : Nat} {r r2 : Nat → Int} {z : Nat} {v : Int} (h : NL ≤ z) : pt_mrg NL r r2 z (some v) z = v := by
  show (if z < NL then r2 z else if z = z then v else r z) = v
  rw [if_neg (by omega), if_pos rfl]
theorem wm5 {α : Type} {p : α → Prop} {a b c d e : α} (h1 : p a) (h2 : p b) (h3 : p c) (h4 : p d) (h5 : p e) : ∀ x ∈ [a, b, c, d, e], p x := fun x hx => by
  rcases List.mem_cons.mp hx with rfl | hx
  · exact h1
  · exact pt_m4 h2 h3 h4 h5 x hx
theorem wa_rm {mj n a b : Nat} (h : ct_bud mj = (a, b)) : (lt_rm n mj).cells = a ∧ (lt_rm n mj).slots = b := ⟨congrArg (fun z => z.1) h, congrArg (fun z => z.2) h⟩
theorem wa_pl : lh_plain 115 = true ∧ lh_plain 137 = true ∧ lh_plain 260 = true ∧ lh_plain 180 = true := by decide +kernel
theorem wa_ml : (ct_mt 115).2.2.1 = 4 ∧ (ct_mt 137).2.2.1 = 4 ∧ (ct_mt 260).2.2.1 = 6 ∧ (ct_mt 180).2.2.1 = 4 := by decide +kernel
theorem wa_bu : ct_bud 115 = (0, 0) ∧ ct_bud 137 = (1, 6) ∧ ct_bud 260 = (1, 6) ∧ ct_bud 180 = (0, 0) := by decide +kernel
theorem wa_bd {r : Nat → Int} (hE : ai_gE r waE) : (0 ≤ r 74 ∧ r 74 ≤ 12) ∧ (∀ s, s < 12 → (-1 ≤ r (213 + s) ∧ r (213 + s) ≤ 12) ∧ (0 ≤ r (201 + s) ∧ r (201 + s) ≤ 2)) ∧ ∀ j, j < 10 → -2147483648 ≤ r (391 + j) ∧ r (391 + j) ≤ 2147483647 := by
  have h : ((74, ((0 : Int), (12 : Int))) ∈ waE.2.1 ∧ ∀ s ∈ List.range 12, (213 + s, ((-1 : Int), (12 : Int))) ∈ waE.2.1 ∧ (201 + s, ((0 : Int), (2 : Int))) ∈ waE.2.1) ∧ ∀ j ∈ List.range 10, (391 + j, ((-2147483648 : Int), (2147483647 : Int))) ∈ waE.2.1 := by decide +kernel
  refine ⟨(hE.2.2.2.1 _ h.1.1).2, fun s hs => ?_, fun j hj => (hE.2.2.2.1 _ (h.2 j (List.mem_range.mpr hj))).2⟩
  obtain ⟨a, b⟩ := h.1.2 s (List.mem_range.mpr hs)
  exact ⟨(hE.2.2.2.1 _ a).2, (hE.2.2.2.1 _ b).2⟩
theorem wb_bd {r : Nat → Int} (hE : ai_gE r wbE) : (0 ≤ r 74 ∧ r 74 ≤ 12) ∧ (∀ s, s < 12 → (-1 ≤ r (213 + s) ∧ r (213 + s) ≤ 12) ∧ (0 ≤ r (201 + s) ∧ r (201 + s) ≤ 2)) ∧ ∀ j, j < 10 → -2147483648 ≤ r (390 + j) ∧ r (390 + j) ≤ 2147483647 := by
  have h : ((74, ((0 : Int), (12 : Int))) ∈ wbE.2.1 ∧ ∀ s ∈ List.range 12, (213 + s, ((-1 : Int), (12 : Int))) ∈ wbE.2.1 ∧ (201 + s, ((0 : Int), (2 : Int))) ∈ wbE.2.1) ∧ ∀ j ∈ List.range 10, (390 + j, ((-2147483648 : Int), (2147483647 : Int))) ∈ wbE.2.1 := by decide +kernel
  refine ⟨(hE.2.2.2.1 _ h.1.1).2, fun s hs => ?_, fun j hj => (hE.2.2.2.1 _ (h.2 j (List.mem_range.mpr hj))).2⟩
  obtain ⟨a, b⟩ := h.1.2 s (List.mem_range.mpr hs)
  exact ⟨(hE.2.2.2.1 _ a).2, (hE.2.2.2.1 _ b).2⟩
