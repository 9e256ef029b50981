/-! WAY: what the land says: what mills could make, loads served -/
noncomputable def wq_rc (r : Nat → Int) (q m : Nat) : Int := if r (139 + m) = 3 then ai_op 12 (r (147 + m)) (r (187 + (4 * m + q))) else r (147 + m)
noncomputable def wq_R (r : Nat → Int) (q o x : Nat) : Nat → Int
  | 0 => 0
  | m + 1 => if x.testBit (o + m) then ai_op 0 (wq_R r q o x m) (wq_rc r q m) else wq_R r q o x m
noncomputable def wq_S (r : Nat → Int) (q o x : Nat) : Nat → Int
  | 0 => 0
  | p + 1 => if x.testBit (o + p) then ai_op 0 (wq_S r q o x p) (r (171 + (4 * p + q))) else wq_S r q o x p
theorem wq_rc_c {r r2 : Nat → Int} (h : ∀ t, (t = 73 ∨ t = 74 ∨ t = 75 ∨ (115 ≤ t ∧ t < 125) ∨ (135 ≤ t ∧ t < 139) ∨ (139 ≤ t ∧ t < 143) ∨ (147 ≤ t ∧ t < 151) ∨ (171 ≤ t ∧ t < 203) ∨ (371 ≤ t ∧ t < 379)) → r2 t = r t) {q m : Nat} (hq : q < 4) (hm : m < 4) : wq_rc r2 q m = wq_rc r q m := by
  unfold wq_rc
  rw [h _ (by omega), h (147 + m) (by omega), h _ (by omega)]
theorem wq_R_c {r r2 : Nat → Int} (h : ∀ t, (t = 73 ∨ t = 74 ∨ t = 75 ∨ (115 ≤ t ∧ t < 125) ∨ (135 ≤ t ∧ t < 139) ∨ (139 ≤ t ∧ t < 143) ∨ (147 ≤ t ∧ t < 151) ∨ (171 ≤ t ∧ t < 203) ∨ (371 ≤ t ∧ t < 379)) → r2 t = r t) {q o x : Nat} (hq : q < 4) : ∀ {m : Nat}, m ≤ 4 → wq_R r2 q o x m = wq_R r q o x m
  | 0, _ => rfl
  | m + 1, hm => by
    unfold wq_R
    rw [wq_R_c h hq (by omega), wq_rc_c h hq (by omega)]
theorem wq_S_c {r r2 : Nat → Int} (h : ∀ t, (t = 73 ∨ t = 74 ∨ t = 75 ∨ (115 ≤ t ∧ t < 125) ∨ (135 ≤ t ∧ t < 139) ∨ (139 ≤ t ∧ t < 143) ∨ (147 ≤ t ∧ t < 151) ∨ (171 ≤ t ∧ t < 203) ∨ (371 ≤ t ∧ t < 379)) → r2 t = r t) {q o x : Nat} (hq : q < 4) : ∀ {m : Nat}, m ≤ 4 → wq_S r2 q o x m = wq_S r q o x m
  | 0, _ => rfl
  | m + 1, hm => by
    unfold wq_S
    rw [wq_S_c h hq (by omega), h _ (by omega)]
/-- a method that changes nothing -/
noncomputable def wq_pu (NL : Nat) (v : (Nat → Int) → Int) (r : Nat → Int) (M : Nat → Nat → Int) (r2 : Nat → Int) (M2 : Nat → Nat → Int) (o : Option Int) : Prop := o = some (v r) ∧ M2 = M ∧ ∀ t, t < NL → r2 t = r t
theorem wq_mrg {NL z : Nat} {r r2 : Nat → Int} {v : Int} (hz : NL ≤ z) (h : ∀ t, t < NL → r2 t = r t) : pt_mrg NL r r2 z (some v) = pt_set r z v := by
  funext t
  unfold pt_mrg pt_set
  by_cases a : t < NL
  · rw [if_pos a, if_neg (by omega)]
    exact h t a
  · rw [if_neg a]
theorem wq_cv {n mi mj z : Nat} {Y : pt_Y} {rt : Nat} {Z : (Nat → Int) → (Nat → Nat → Int) → Option Int → Prop} {P : pt_P} (h : pt_Cl n mi Y rt Z P) {pc : Nat} {L S S' aa bb : List ai_V} {r : Nat → Int} {M : Nat → Nat → Int} {Pre : (Nat → Int) → (Nat → Nat → Int) → Prop} {v : (Nat → Int) → Int}
    (hb : ct_bud mj = (0, 0)) (hz : Y.2.2.2 ≤ z) (hpl : lh_plain mj = true) (hck : (cy_vk mi pc mj Y.2.1 S aa S' && pt_cck Y mi mj (pc, 0, 0) 1 z L S' aa bb) = true) (hM : pt_Met n mj Y bb Pre (wq_pu Y.2.2.2 v) 1) (hpre : Pre (pt_up r (pt_wc aa bb)) M) (hlow : ∀ t, t < Y.2.2.2 → pt_up r (pt_wc aa bb) t = r t)
    (k : P (pc + 3, 0, 0) L (.inl (z, 0) :: S') (pt_set r z (v (pt_up r (pt_wc aa bb)))) M) : P (pc, 0, 0) L S r M := by
  rw [Bool.and_eq_true] at hck
  obtain ⟨-, -, -, -, -, -, -, -, hcall, -⟩ := h
  refine hcall (pc, 0, 0) _ _ _ _ _ r M mj 1 z _ _ hpl hck.1 hck.2 hM hpre (fun r2 M2 o hq => ?_)
  obtain ⟨q1, q2, q3⟩ := hq
  subst q1 q2
  obtain ⟨rc, rs⟩ := wa_rm (n := n) hb
  rw [rc, rs, wq_mrg hz (fun t ht => (q3 t ht).trans (hlow t ht))]
  exact k
theorem wq_b0 : ∀ q ∈ [119, 120, 121, 122, 123, 124, 125, 126, 249, 250, 251, 252, 287], ct_bud q = (0, 0) ∧ lh_plain q = true := by decide +kernel
theorem wq_m2 {α : Type} {p : α → Prop} {a b : α} (h1 : p a) (h2 : p b) : ∀ x ∈ [a, b], p x := pt_m2 h1 h2
noncomputable def wq_b (t m : Nat) : pt_X := [(0, t, 0), (1, 0, .ofNat m), (2, 9, 0), (1, 0, 1), (2, 5, 0)]
noncomputable def wq_k (k : Nat) : pt_X := [(1, 0, .ofNat k)]
theorem wq_vb {r : Nat → Int} {t m x : Nat} (h : r t = (x : Int)) (hx : x < 2147483648) (hm : m < 16) : pt_v r (wq_b t m) = if x.testBit m then 1 else 0 := by
  show ai_op 5 (ai_op 9 (r t) (m : Int)) 1 = _
  rw [h]
  exact wq_bit hx hm
