/-! ASKED: a stack in an array, its top first in the list -/
noncomputable def ak_at (q : Nat) (st : List Int) (M : Nat → Nat → Int) : Prop := ∀ j, j < st.length → M q j = st.getD (st.length - 1 - j) 0
theorem ak_at_0 {q : Nat} {M : Nat → Nat → Int} : ak_at q [] M := fun j hj => absurd hj (Nat.not_lt_zero j)
theorem ak_at_c {q : Nat} {st : List Int} {M M2 : Nat → Nat → Int} (h : ak_at q st M) (e : M2 q = M q) : ak_at q st M2 := fun j hj => by
  rw [e]
  exact h j hj
theorem ak_at_push {q : Nat} {x : Int} {st : List Int} {M : Nat → Nat → Int} (h : ak_at q st M) : ak_at q (x :: st) (pt_sto M q st.length x) := fun j hj => by
  have hj : j < st.length + 1 := hj
  show (if q = q ∧ j = st.length then x else M q j) = (x :: st).getD (st.length + 1 - 1 - j) 0
  by_cases e : j = st.length
  · rw [if_pos ⟨rfl, e⟩, show st.length + 1 - 1 - j = 0 by omega]
    rfl
  · rw [if_neg (fun w => e w.2), h j (by omega), show st.length + 1 - 1 - j = (st.length - 1 - j) + 1 by omega]
    rfl
theorem ak_at_top {q : Nat} {x : Int} {st : List Int} {M : Nat → Nat → Int} (h : ak_at q (x :: st) M) : M q st.length = x := by
  have g := h st.length (Nat.lt_succ_self _)
  rw [show (x :: st).length - 1 - st.length = 0 by rw [List.length_cons]; omega] at g
  exact g
theorem ak_at_pop {q : Nat} {x : Int} {st : List Int} {M : Nat → Nat → Int} (h : ak_at q (x :: st) M) : ak_at q st M := fun j hj => by
  have g := h j (Nat.lt_succ_of_lt hj)
  rw [show (x :: st).length - 1 - j = (st.length - 1 - j) + 1 by rw [List.length_cons]; omega] at g
  exact g
/-- an operation of two numbers -/
noncomputable def ak_j (c x y : Int) : Int := if c = -6 then ai_op 0 x y else if c = -7 then ai_op 1 x y else if c = -8 then ai_op 2 x y else if c = -9 then (if y = 0 then 0 else ai_op 3 x y) else if c = -10 then (if x < y then 1 else 0) else if c = -11 then (if x = y then 1 else 0) else if c = -13 then (if x ≠ 0 ∧ y ≠ 0 then 1 else 0) else if x ≠ 0 ∨ y ≠ 0 then 1 else 0
abbrev ak_e : Type := Int × (List (Nat × Int × Int) × List (ai_X × ai_X)) × pt_X
noncomputable def ak_n : Int × Int := (-2147483648, -1)
noncomputable def ak_p : Int × Int := (1, 2147483647)
noncomputable def ak_tab (t : Nat) : List ak_e := [(-6, ([], []), [(0, t + 1, 0), (0, t + 2, 0), (2, 0, 0)]), (-7, ([], []), [(0, t + 1, 0), (0, t + 2, 0), (2, 1, 0)]), (-8, ([], []), [(0, t + 1, 0), (0, t + 2, 0), (2, 2, 0)]),
  (-9, ([(t + 2, (0, 0))], []), [(1, 0, 0)]), (-9, ([(t + 2, ak_p)], []), [(0, t + 1, 0), (0, t + 2, 0), (2, 3, 0)]), (-9, ([(t + 2, ak_n)], []), [(0, t + 1, 0), (0, t + 2, 0), (2, 3, 0)]),
  (-10, ([], [((t + 1, 1), (t + 2, 0))]), [(1, 0, 1)]), (-10, ([], [((t + 2, 0), (t + 1, 0))]), [(1, 0, 0)]),
  (-11, ([], [((t + 1, 0), (t + 2, 0)), ((t + 2, 0), (t + 1, 0))]), [(1, 0, 1)]), (-11, ([], [((t + 1, 1), (t + 2, 0))]), [(1, 0, 0)]), (-11, ([], [((t + 2, 1), (t + 1, 0))]), [(1, 0, 0)]),
  (-13, ([(t + 1, (0, 0))], []), [(1, 0, 0)]), (-13, ([(t + 1, ak_n), (t + 2, (0, 0))], []), [(1, 0, 0)]), (-13, ([(t + 1, ak_p), (t + 2, (0, 0))], []), [(1, 0, 0)]), (-13, ([(t + 1, ak_n), (t + 2, ak_n)], []), [(1, 0, 1)]), (-13, ([(t + 1, ak_n), (t + 2, ak_p)], []), [(1, 0, 1)]), (-13, ([(t + 1, ak_p), (t + 2, ak_n)], []), [(1, 0, 1)]), (-13, ([(t + 1, ak_p), (t + 2, ak_p)], []), [(1, 0, 1)]),
  (-14, ([(t + 1, ak_n)], []), [(1, 0, 1)]), (-14, ([(t + 1, ak_p)], []), [(1, 0, 1)]), (-14, ([(t + 1, (0, 0)), (t + 2, ak_n)], []), [(1, 0, 1)]), (-14, ([(t + 1, (0, 0)), (t + 2, ak_p)], []), [(1, 0, 1)]), (-14, ([(t + 1, (0, 0)), (t + 2, (0, 0))], []), [(1, 0, 0)])]
noncomputable def ak_tL (t : Nat) : List ai_V := [wa_i t, wa_i (t + 1), wa_i (t + 2)]
noncomputable def ak_row (Y : pt_Y) (mi t : Nat) (st : List Nat) (g : Int → Int) (pc : Int → Nat) (e : ak_e) : Bool := pt_row Y mi st true (0, 0, 0) (ak_tL t) [] [] ((t, (g e.1, g e.1)) :: e.2.1.1) e.2.1.2 [] [((pc e.1, 0, 0), (ak_tL t, [wa_i (t + 80)]), [(t + 80, e.2.2)], [])]
noncomputable def ak_ops : List Int := [-6, -7, -8, -9, -10, -11, -13, -14]
theorem ak_two {n mi t : Nat} {Y : pt_Y} {Z : (Nat → Int) → (Nat → Nat → Int) → Option Int → Prop} {P : pt_P} {st : List Nat} {g : Int → Int} {pc : Int → Nat} (h : pt_Cl n mi Y 1 Z P) (hr : (ak_tab t).all (ak_row Y mi t st g pc) = true) (hi : ak_ops.all (fun c => pt_is 5 mi (pc c)) = true) {r : Nat → Int} {M : Nat → Nat → Int} {c : Int} (hc : c ∈ ak_ops) (e0 : r t = g c)
    (b1 : -2147483648 ≤ r (t + 1) ∧ r (t + 1) ≤ 2147483647) (b2 : -2147483648 ≤ r (t + 2) ∧ r (t + 2) ≤ 2147483647) (hz : ∀ r2, (∀ u, u < t → r2 u = r u) → Z r2 M (some (ak_j c (r (t + 1)) (r (t + 2))))) : P (0, 0, 0) (ak_tL t) [] r M := by
  obtain ⟨hseg, -, -, -, -, -, -, -, -, -, hret, -⟩ := h
  have go : ∀ e ∈ ak_tab t, e.1 = c → (∀ q ∈ e.2.1.1, q.2.1 ≤ r q.1 ∧ r q.1 ≤ q.2.2) → (∀ q ∈ e.2.1.2, ai_vx r q.1 ≤ ai_vx r q.2) → pt_v r e.2.2 = ak_j c (r (t + 1)) (r (t + 2)) → P (0, 0, 0) (ak_tL t) [] r M := fun e he ec h1 h2 h3 => by
    have row := List.all_eq_true.mp hr e he
    refine hseg _ _ _ _ _ r M _ _ _ _ _ row ⟨pt_m0, fun q hq => ?_, h2⟩ ⟨fun _ => ?_, trivial⟩
    · rcases List.mem_cons.mp hq with rfl | hq
      · rw [ec]
        exact ⟨by show g c ≤ r t; omega, by show r t ≤ g c; omega⟩
      · exact h1 q hq
    · obtain ⟨r2, hr2⟩ : ∃ r2, r2 = pt_up r [(t + 80, e.2.2)] := ⟨_, rfl⟩
      show P (pc e.1, 0, 0) (ak_tL t) [.inl (t + 80, 0)] (pt_up r [(t + 80, e.2.2)]) M
      rw [← hr2]
      have is5 := List.all_eq_true.mp hi c hc
      rw [ec]
      refine hret (pc c, 0, 0) _ (t + 80, 0) r2 M rfl is5 (Nat.ble_eq_true_of_le (Nat.zero_le _)) (Nat.ble_eq_true_of_le (Nat.zero_le _)) ?_
      have ev : ai_vx r2 (t + 80, 0) = ak_j c (r (t + 1)) (r (t + 2)) := by
        show r2 (t + 80) + 0 = _
        rw [Int.add_zero, hr2, ← h3]
        exact if_pos rfl
      rw [ev]
      exact hz r2 (fun u hu => by rw [hr2]; exact if_neg (by omega))
  have at' : ∀ (k : Nat) (e : ak_e), (ak_tab t)[k]? = some e → e ∈ ak_tab t := fun k e he => List.mem_of_getElem? he
  have sg : ∀ x : Int, (-2147483648 ≤ x ∧ x ≤ 2147483647) → (x = 0 ∨ (1 ≤ x ∧ x ≤ 2147483647) ∨ (-2147483648 ≤ x ∧ x ≤ -1)) := fun x hx => by omega
  have c1 : ∀ {u : Nat} {b : Int × Int}, (b.1 ≤ r u ∧ r u ≤ b.2) → ∀ q ∈ [(u, b)], q.2.1 ≤ r q.1 ∧ r q.1 ≤ q.2.2 := fun {u b} hb => pt_m1 hb
  simp only [ak_ops, List.mem_cons, List.not_mem_nil, or_false] at hc
  rcases hc with rfl | rfl | rfl | rfl | rfl | rfl | rfl | rfl
  · exact go _ (at' 0 _ rfl) rfl pt_m0 pt_m0 rfl
  · exact go _ (at' 1 _ rfl) rfl pt_m0 pt_m0 rfl
  · exact go _ (at' 2 _ rfl) rfl pt_m0 pt_m0 rfl
  · rcases sg _ b2 with z | z | z
    · exact go _ (at' 3 _ rfl) rfl (pt_m1 ⟨by show (0 : Int) ≤ r (t + 2); omega, by show r (t + 2) ≤ 0; omega⟩) pt_m0 (by
        show (0 : Int) = if r (t + 2) = 0 then 0 else _
        rw [if_pos z])
    · exact go _ (at' 4 _ rfl) rfl (pt_m1 z) pt_m0 (by
        show ai_op 3 (r (t + 1)) (r (t + 2)) = if r (t + 2) = 0 then 0 else _
        rw [if_neg (by omega)])
    · exact go _ (at' 5 _ rfl) rfl (pt_m1 z) pt_m0 (by
        show ai_op 3 (r (t + 1)) (r (t + 2)) = if r (t + 2) = 0 then 0 else _
        rw [if_neg (by omega)])
  · by_cases z : r (t + 1) < r (t + 2)
    · exact go _ (at' 6 _ rfl) rfl pt_m0 (pt_m1 (by show r (t + 1) + 1 ≤ r (t + 2) + 0; omega)) (by
        show (1 : Int) = if r (t + 1) < r (t + 2) then 1 else 0
        rw [if_pos z])
    · exact go _ (at' 7 _ rfl) rfl pt_m0 (pt_m1 (by show r (t + 2) + 0 ≤ r (t + 1) + 0; omega)) (by
        show (0 : Int) = if r (t + 1) < r (t + 2) then 1 else 0
        rw [if_neg z])
  · rcases (by omega : r (t + 1) = r (t + 2) ∨ r (t + 1) < r (t + 2) ∨ r (t + 2) < r (t + 1)) with z | z | z
    · exact go _ (at' 8 _ rfl) rfl pt_m0 (pt_m2 (by show r (t + 1) + 0 ≤ r (t + 2) + 0; omega) (by show r (t + 2) + 0 ≤ r (t + 1) + 0; omega)) (by
        show (1 : Int) = if r (t + 1) = r (t + 2) then 1 else 0
        rw [if_pos z])
    · exact go _ (at' 9 _ rfl) rfl pt_m0 (pt_m1 (by show r (t + 1) + 1 ≤ r (t + 2) + 0; omega)) (by
        show (0 : Int) = if r (t + 1) = r (t + 2) then 1 else 0
        rw [if_neg (by omega)])
    · exact go _ (at' 10 _ rfl) rfl pt_m0 (pt_m1 (by show r (t + 2) + 1 ≤ r (t + 1) + 0; omega)) (by
        show (0 : Int) = if r (t + 1) = r (t + 2) then 1 else 0
        rw [if_neg (by omega)])
  · have e : ∀ v : Int, (v = if r (t + 1) ≠ 0 ∧ r (t + 2) ≠ 0 then 1 else 0) → v = ak_j (-13) (r (t + 1)) (r (t + 2)) := fun v hv => hv
    rcases sg _ b1 with z | z | z
    · exact go _ (at' 11 _ rfl) rfl (pt_m1 ⟨by show (0 : Int) ≤ r (t + 1); omega, by show r (t + 1) ≤ 0; omega⟩) pt_m0 (e 0 (by rw [if_neg (fun w => w.1 z)]))
    · rcases sg _ b2 with y | y | y
      · exact go _ (at' 13 _ rfl) rfl (pt_m2 z ⟨by show (0 : Int) ≤ r (t + 2); omega, by show r (t + 2) ≤ 0; omega⟩) pt_m0 (e 0 (by rw [if_neg (fun w => w.2 y)]))
      · exact go _ (at' 17 _ rfl) rfl (pt_m2 z y) pt_m0 (e 1 (by rw [if_pos ⟨by omega, by omega⟩]))
      · exact go _ (at' 16 _ rfl) rfl (pt_m2 z y) pt_m0 (e 1 (by rw [if_pos ⟨by omega, by omega⟩]))
    · rcases sg _ b2 with y | y | y
      · exact go _ (at' 12 _ rfl) rfl (pt_m2 z ⟨by show (0 : Int) ≤ r (t + 2); omega, by show r (t + 2) ≤ 0; omega⟩) pt_m0 (e 0 (by rw [if_neg (fun w => w.2 y)]))
      · exact go _ (at' 15 _ rfl) rfl (pt_m2 z y) pt_m0 (e 1 (by rw [if_pos ⟨by omega, by omega⟩]))
      · exact go _ (at' 14 _ rfl) rfl (pt_m2 z y) pt_m0 (e 1 (by rw [if_pos ⟨by omega, by omega⟩]))
  · have e : ∀ v : Int, (v = if r (t + 1) ≠ 0 ∨ r (t + 2) ≠ 0 then 1 else 0) → v = ak_j (-14) (r (t + 1)) (r (t + 2)) := fun v hv => hv
    rcases sg _ b1 with z | z | z
    · have b0 : (0 : Int) ≤ r (t + 1) ∧ r (t + 1) ≤ 0 := ⟨by omega, by omega⟩
      rcases sg _ b2 with y | y | y
      · exact go _ (at' 22 _ rfl) rfl (pt_m2 b0 ⟨by show (0 : Int) ≤ r (t + 2); omega, by show r (t + 2) ≤ 0; omega⟩) pt_m0 (e 0 (by rw [if_neg (by omega)]))
      · exact go _ (at' 21 _ rfl) rfl (pt_m2 b0 y) pt_m0 (e 1 (by rw [if_pos (by omega)]))
      · exact go _ (at' 20 _ rfl) rfl (pt_m2 b0 y) pt_m0 (e 1 (by rw [if_pos (by omega)]))
    · exact go _ (at' 19 _ rfl) rfl (pt_m1 z) pt_m0 (e 1 (by rw [if_pos (by omega)]))
    · exact go _ (at' 18 _ rfl) rfl (pt_m1 z) pt_m0 (e 1 (by rw [if_pos (by omega)]))
