/-! write: words -/
noncomputable def wa_i (t : Nat) : ai_V := .inl (t, 0)
noncomputable def wa_k (k : Nat) : ai_V := .inl (0, .ofNat k)
noncomputable def wa_r (q : Nat) : ai_V := .inr (.inr (some (some q)))
noncomputable def wa_u : ai_V := .inr (.inr none)
noncomputable def wa_s (t : Nat) : pt_X := [(0, t, 0)]
/-- what write answers -/
noncomputable def wv_r (sz so at' v : Int) : Int := if sz = -1 then 1 else if at' < 0 ∨ sz ≤ at' then 3 else if so = 2 ∧ (v < -32768 ∨ 32767 < v) then 4 else 0
theorem wa_up_self {r : Nat → Int} (h0 : r 0 = 0) : ∀ {W : List (Nat × pt_X)}, (∀ q ∈ W, q.2 = pt_xr (q.1, 0)) → pt_up r W = r
  | [], _ => rfl
  | q :: W, h => by
    have ih := wa_up_self h0 (fun z hz => h z (List.mem_cons_of_mem _ hz))
    funext t
    unfold pt_up
    by_cases e : t = q.1
    · rw [if_pos e, h q List.mem_cons_self, pt_xr_ok h0, e]
      exact Int.add_zero _
    · rw [if_neg e, ih]
theorem wa_mlt {NL : Nat} {r r2 : Nat → Int} {z t : Nat} {v : Option Int} (h : t < NL) : pt_mrg NL r r2 z v t = r2 t := if_pos h
theorem wa_mz {NL : Nat} {r r2 : Nat → Int} {z : Nat} {v : Int} (h : NL ≤ z) : pt_mrg NL r r2 z (some v) z = v := by
  show (if z < NL then r2 z else if z = z then v else r z) = v
  rw [if_neg (by omega), if_pos rfl]
theorem wm5 {α : Type} {p : α → Prop} {a b c d e : α} (h1 : p a) (h2 : p b) (h3 : p c) (h4 : p d) (h5 : p e) : ∀ x ∈ [a, b, c, d, e], p x := fun x hx => by
  rcases List.mem_cons.mp hx with rfl | hx
  · exact h1
  · exact pt_m4 h2 h3 h4 h5 x hx
theorem wa_rm {mj n a b : Nat} (h : ct_bud mj = (a, b)) : (lt_rm n mj).cells = a ∧ (lt_rm n mj).slots = b := ⟨congrArg (fun z => z.1) h, congrArg (fun z => z.2) h⟩
