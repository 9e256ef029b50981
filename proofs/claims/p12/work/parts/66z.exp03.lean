/-! ASKED: a stack in an array, its top first in the list -/
noncomputable def ak_atZ (q : Nat) (st : List Int) (M : Nat → Nat → Int) : Prop := ∀ j, j < st.length → M q j = st.getD (st.length - 1 - j) 0
theorem ak_at_0Z {q : Nat} {M : Nat → Nat → Int} : ak_atZ q [] M := fun j hj => absurd hj (Nat.not_lt_zero j)
theorem ak_at_cZ {q : Nat} {st : List Int} {M M2 : Nat → Nat → Int} (h : ak_atZ q st M) (e : M2 q = M q) : ak_atZ q st M2 := fun j hj => by
  rw [e]
  exact h j hj
theorem ak_at_pushZ {q : Nat} {x : Int} {st : List Int} {M : Nat → Nat → Int} (h : ak_atZ q st M) : ak_atZ q (x :: st) (pt_sto M q st.length x) := fun j hj => by
  have hj : j < st.length + 1 := hj
  show (if q = q ∧ j = st.length then x else M q j) = (x :: st).getD (st.length + 1 - 1 - j) 0
  by_cases e : j = st.length
  · rw [if_pos ⟨rfl, e⟩, show st.length + 1 - 1 - j = 0 by omega]
    rfl
  · rw [if_neg (fun w => e w.2), h j (by omega), show st.length + 1 - 1 - j = (st.length - 1 - j) + 1 by omega]
    rfl
theorem ak_at_topZ {q : Nat} {x : Int} {st : List Int} {M : Nat → Nat → Int} (h : ak_atZ q (x :: st) M) : M q st.length = x := by
  have g := h st.length (Nat.lt_succ_self _)
  rw [show (x :: st).length - 1 - st.length = 0 by rw [List.length_cons]; omega] at g
  exact g
theorem ak_at_popZ {q : Nat} {x : Int} {st : List Int} {M : Nat → Nat → Int} (h : ak_atZ q (x :: st) M) : ak_atZ q st M := fun j hj => by
  have g := h j (Nat.lt_succ_of_lt hj)
  rw [show (x :: st).length - 1 - j = (st.length - 1 - j) + 1 by rw [List.length_cons]; omega] at g
  exact g
/-- an operation of two numbers -/
noncomputable def ak_jZ (c x y : Int) : Int := if c = -6 then ai_op 0 x y else if c = -7 then ai_op 1 x y else if c = -8 then ai_op 2 x y else if c = -9 then (if y = 0 then 0 else ai_op 3 x y) else if c = -10 then (if x < y then 1 else 0) else if c = -11 then (if x = y then 1 else 0) else if c = -13 then (if x ≠ 0 ∧ y ≠ 0 then 1 else 0) else if x ≠ 0 ∨ y ≠ 0 then 1 else 0
abbrev ak_eZ : Type := Int × (List (Nat × Int × Int) × List (ai_X × ai_X)) × pt_X
noncomputable def ak_nZ : Int × Int := (-2147483648, -1)
noncomputable def ak_pZ : Int × Int := (1, 2147483647)
noncomputable def ak_tabZ (t : Nat) : List ak_eZ := [(-6, ([], []), [(0, t + 1, 0), (0, t + 2, 0), (2, 0, 0)]), (-7, ([], []), [(0, t + 1, 0), (0, t + 2, 0), (2, 1, 0)]), (-8, ([], []), [(0, t + 1, 0), (0, t + 2, 0), (2, 2, 0)]),
  (-9, ([(t + 2, (0, 0))], []), [(1, 0, 0)]), (-9, ([(t + 2, ak_pZ)], []), [(0, t + 1, 0), (0, t + 2, 0), (2, 3, 0)]), (-9, ([(t + 2, ak_nZ)], []), [(0, t + 1, 0), (0, t + 2, 0), (2, 3, 0)]),
  (-10, ([], [((t + 1, 1), (t + 2, 0))]), [(1, 0, 1)]), (-10, ([], [((t + 2, 0), (t + 1, 0))]), [(1, 0, 0)]),
  (-11, ([], [((t + 1, 0), (t + 2, 0)), ((t + 2, 0), (t + 1, 0))]), [(1, 0, 1)]), (-11, ([], [((t + 1, 1), (t + 2, 0))]), [(1, 0, 0)]), (-11, ([], [((t + 2, 1), (t + 1, 0))]), [(1, 0, 0)]),
  (-13, ([(t + 1, (0, 0))], []), [(1, 0, 0)]), (-13, ([(t + 1, ak_nZ), (t + 2, (0, 0))], []), [(1, 0, 0)]), (-13, ([(t + 1, ak_pZ), (t + 2, (0, 0))], []), [(1, 0, 0)]), (-13, ([(t + 1, ak_nZ), (t + 2, ak_nZ)], []), [(1, 0, 1)]), (-13, ([(t + 1, ak_nZ), (t + 2, ak_pZ)], []), [(1, 0, 1)]), (-13, ([(t + 1, ak_pZ), (t + 2, ak_nZ)], []), [(1, 0, 1)]), (-13, ([(t + 1, ak_pZ), (t + 2, ak_pZ)], []), [(1, 0, 1)]),
  (-14, ([(t + 1, ak_nZ)], []), [(1, 0, 1)]), (-14, ([(t + 1, ak_pZ)], []), [(1, 0, 1)]), (-14, ([(t + 1, (0, 0)), (t + 2, ak_nZ)], []), [(1, 0, 1)]), (-14, ([(t + 1, (0, 0)), (t + 2, ak_pZ)], []), [(1, 0, 1)]), (-14, ([(t + 1, (0, 0)), (t + 2, (0, 0))], []), [(1, 0, 0)])]
noncomputable def ak_tLZ (t : Nat) : List ai_V := [wa_i t, wa_i (t + 1), wa_i (t + 2)]
noncomputable def ak_rowZ (Y : pt_Y) (mi t : Nat) (st : List Nat) (g : Int → Int) (pc : Int → Nat) (e : ak_eZ) : Bool := pt_row Y mi st true (0, 0, 0) (ak_tLZ t) [] [] ((t, (g e.1, g e.1)) :: e.2.1.1) e.2.1.2 [] [((pc e.1, 0, 0), (ak_tLZ t, [wa_i (t + 80)]), [(t + 80, e.2.2)], [])]
noncomputable def ak_opsZ : List Int := [-6, -7, -8, -9, -10, -11, -13, -14]
theorem ak_twoZ {n mi t : Nat} {Y : pt_Y} {Z : (Nat → Int) → (Nat → Nat → Int) → Option Int → Prop} {P : pt_P} {st : List Nat} {g : Int → Int} {pc : Int → Nat} (h : pt_Cl n mi Y 1 Z P) (hr : (ak_tabZ t).all (ak_rowZ Y mi t st g pc) = true) (hi : ak_opsZ.all (fun c => pt_is 5 mi (pc c)) = true) {r : Nat → Int} {M : Nat → Nat → Int} {c : Int} (hc : c ∈ ak_opsZ) (e0 : r t = g c)
    (b1 : -2147483648 ≤ r (t + 1) ∧ r (t + 1) ≤ 2147483647) (b2 : -2147483648 ≤ r (t + 2) ∧ r (t + 2) ≤ 2147483647) (hz : ∀ r2, (∀ u, u < t → r2 u = r u) → Z r2 M (some (ak_jZ c (r (t + 1)) (r (t + 2))))) : P (0, 0, 0) (ak_tLZ t) [] r M := by
  obtain ⟨hseg, -, -, -, -, -, -, -, -, -, hret, -⟩ := h
  have go : ∀ e ∈ ak_tabZ t, e.1 = c → (∀ q ∈ e.2.1.1, q.2.1 ≤ r q.1 ∧ r q.1 ≤ q.2.2) → (∀ q ∈ e.2.1.2, ai_vx r q.1 ≤ ai_vx r q.2) → pt_v r e.2.2 = ak_jZ c (r (t + 1)) (r (t + 2)) → P (0, 0, 0) (ak_tLZ t) [] r M := fun e he ec h1 h2 h3 => by
    have row := List.all_eq_true.mp hr e he
    refine hseg _ _ _ _ _ r M _ _ _ _ _ row ⟨pt_m0, fun q hq => ?_, h2⟩ ⟨fun _ => ?_, trivial⟩
    · rcases List.mem_cons.mp hq with rfl | hq
      · rw [ec]
        exact ⟨by show g c ≤ r t; omega, by show r t ≤ g c; omega⟩
      · exact h1 q hq
    · obtain ⟨r2, hr2⟩ : ∃ r2, r2 = pt_up r [(t + 80, e.2.2)] := ⟨_, rfl⟩
      show P (pc e.1, 0, 0) (ak_tLZ t) [.inl (t + 80, 0)] (pt_up r [(t + 80, e.2.2)]) M
      rw [← hr2]
      have is5 := List.all_eq_true.mp hi c hc
      rw [ec]
      refine hret (pc c, 0, 0) _ (t + 80, 0) r2 M rfl is5 (Nat.ble_eq_true_of_le (Nat.zero_le _)) (Nat.ble_eq_true_of_le (Nat.zero_le _)) ?_
      have ev : ai_vx r2 (t + 80, 0) = ak_jZ c (r (t + 1)) (r (t + 2)) := by
        show r2 (t + 80) + 0 = _
        rw [Int.add_zero, hr2, ← h3]
        exact if_pos rfl
      rw [ev]
      exact hz r2 (fun u hu => by rw [hr2]; exact if_neg (by omega))
  have at' : ∀ (k : Nat) (e : ak_eZ), (ak_tabZ t)[k]? = some e → e ∈ ak_tabZ t := fun k e he => List.mem_of_getElem? he
  have sg : ∀ x : Int, (-2147483648 ≤ x ∧ x ≤ 2147483647) → (x = 0 ∨ (1 ≤ x ∧ x ≤ 2147483647) ∨ (-2147483648 ≤ x ∧ x ≤ -1)) := fun x hx => by omega
  have c1 : ∀ {u : Nat} {b : Int × Int}, (b.1 ≤ r u ∧ r u ≤ b.2) → ∀ q ∈ [(u, b)], q.2.1 ≤ r q.1 ∧ r q.1 ≤ q.2.2 := fun {u b} hb => pt_m1 hb
  simp only [ak_opsZ, List.mem_cons, List.not_mem_nil, or_false] at hc
  rcases hc with rfl | rfl | rfl | rfl | rfl | rfl | rfl | rfl
  · exact go _ (at' 0 _ rfl) rfl pt_m0 pt_m0 rfl
  · exact go _ (at' 1 _ rfl) rfl pt_m0 pt_m0 rfl
  · exact go _ (at' 2 _ rfl) rfl pt_m0 pt_m0 rfl
  · rcases sg _ b2 with z | z | z
    · exact go _ (at' 3 _ rfl) rfl (pt_m1 ⟨by show (0 : Int) ≤ r (t + 2); omega, by show r (t + 2) ≤ 0; omega⟩) pt_m0 (by
        show (0 : Int) = if r (t + 2) = 0 then 0 else _
        rw [if_pos z])
    · exact go _ (at' 4 _ rfl) rfl (pt_m1 z) pt_m0 (by
        show ai_op 3 (r (t + 1)) (r (t + 2)) = if r (t + 2) = 0 then 0 else _
        rw [if_neg (by omega)])
    · exact go _ (at' 5 _ rfl) rfl (pt_m1 z) pt_m0 (by
        show ai_op 3 (r (t + 1)) (r (t + 2)) = if r (t + 2) = 0 then 0 else _
        rw [if_neg (by omega)])
  · by_cases z : r (t + 1) < r (t + 2)
    · exact go _ (at' 6 _ rfl) rfl pt_m0 (pt_m1 (by show r (t + 1) + 1 ≤ r (t + 2) + 0; omega)) (by
        show (1 : Int) = if r (t + 1) < r (t + 2) then 1 else 0
        rw [if_pos z])
    · exact go _ (at' 7 _ rfl) rfl pt_m0 (pt_m1 (by show r (t + 2) + 0 ≤ r (t + 1) + 0; omega)) (by
        show (0 : Int) = if r (t + 1) < r (t + 2) then 1 else 0
        rw [if_neg z])
  · rcases (by omega : r (t + 1) = r (t + 2) ∨ r (t + 1) < r (t + 2) ∨ r (t + 2) < r (t + 1)) with z | z | z
    · exact go _ (at' 8 _ rfl) rfl pt_m0 (pt_m2 (by show r (t + 1) + 0 ≤ r (t + 2) + 0; omega) (by show r (t + 2) + 0 ≤ r (t + 1) + 0; omega)) (by
        show (1 : Int) = if r (t + 1) = r (t + 2) then 1 else 0
        rw [if_pos z])
    · exact go _ (at' 9 _ rfl) rfl pt_m0 (pt_m1 (by show r (t + 1) + 1 ≤ r (t + 2) + 0; omega)) (by
        show (0 : Int) = if r (t + 1) = r (t + 2) then 1 else 0
        rw [if_neg (by omega)])
    · exact go _ (at' 10 _ rfl) rfl pt_m0 (pt_m1 (by show r (t + 2) + 1 ≤ r (t + 1) + 0; omega)) (by
        show (0 : Int) = if r (t + 1) = r (t + 2) then 1 else 0
        rw [if_neg (by omega)])
  · have e : ∀ v : Int, (v = if r (t + 1) ≠ 0 ∧ r (t + 2) ≠ 0 then 1 else 0) → v = ak_jZ (-13) (r (t + 1)) (r (t + 2)) := fun v hv => hv
    rcases sg _ b1 with z | z | z
    · exact go _ (at' 11 _ rfl) rfl (pt_m1 ⟨by show (0 : Int) ≤ r (t + 1); omega, by show r (t + 1) ≤ 0; omega⟩) pt_m0 (e 0 (by rw [if_neg (fun w => w.1 z)]))
    · rcases sg _ b2 with y | y | y
      · exact go _ (at' 13 _ rfl) rfl (pt_m2 z ⟨by show (0 : Int) ≤ r (t + 2); omega, by show r (t + 2) ≤ 0; omega⟩) pt_m0 (e 0 (by rw [if_neg (fun w => w.2 y)]))
      · exact go _ (at' 17 _ rfl) rfl (pt_m2 z y) pt_m0 (e 1 (by rw [if_pos ⟨by omega, by omega⟩]))
      · exact go _ (at' 16 _ rfl) rfl (pt_m2 z y) pt_m0 (e 1 (by rw [if_pos ⟨by omega, by omega⟩]))
    · rcases sg _ b2 with y | y | y
      · exact go _ (at' 12 _ rfl) rfl (pt_m2 z ⟨by show (0 : Int) ≤ r (t + 2); omega, by show r (t + 2) ≤ 0; omega⟩) pt_m0 (e 0 (by rw [if_neg (fun w => w.2 y)]))
      · exact go _ (at' 15 _ rfl) rfl (pt_m2 z y) pt_m0 (e 1 (by rw [if_pos ⟨by omega, by omega⟩]))
      · exact go _ (at' 14 _ rfl) rfl (pt_m2 z y) pt_m0 (e 1 (by rw [if_pos ⟨by omega, by omega⟩]))
  · have e : ∀ v : Int, (v = if r (t + 1) ≠ 0 ∨ r (t + 2) ≠ 0 then 1 else 0) → v = ak_jZ (-14) (r (t + 1)) (r (t + 2)) := fun v hv => hv
    rcases sg _ b1 with z | z | z
    · have b0 : (0 : Int) ≤ r (t + 1) ∧ r (t + 1) ≤ 0 := ⟨by omega, by omega⟩
      rcases sg _ b2 with y | y | y
      · exact go _ (at' 22 _ rfl) rfl (pt_m2 b0 ⟨by show (0 : Int) ≤ r (t + 2); omega, by show r (t + 2) ≤ 0; omega⟩) pt_m0 (e 0 (by rw [if_neg (by omega)]))
      · exact go _ (at' 21 _ rfl) rfl (pt_m2 b0 y) pt_m0 (e 1 (by rw [if_pos (by omega)]))
      · exact go _ (at' 20 _ rfl) rfl (pt_m2 b0 y) pt_m0 (e 1 (by rw [if_pos (by omega)]))
    · exact go _ (at' 19 _ rfl) rfl (pt_m1 z) pt_m0 (e 1 (by rw [if_pos (by omega)]))
    · exact go _ (at' 18 _ rfl) rfl (pt_m1 z) pt_m0 (e 1 (by rw [if_pos (by omega)]))
/-! ASKED (the class): joined, push, pull -/
noncomputable def jo_stZ : List Nat := [51, 55, 59, 71, 82, 93, 107, 121]
noncomputable def jo_pcZ (c : Int) : Nat := if c = -6 then 51 else if c = -7 then 55 else if c = -8 then 59 else if c = -9 then 71 else if c = -10 then 82 else if c = -11 then 93 else if c = -13 then 107 else 121
theorem jo_cZ : (ak_tabZ 727).all (ak_rowZ zxY 67 727 jo_stZ (fun c => c) jo_pcZ) = true := by decide +kernel
theorem jo_kZ : (ak_opsZ.all (fun c => pt_is 5 67 (jo_pcZ c)) = true ∧ (ct_mt 67).2.2.1 = 3) ∧ lh_plain 67 = true ∧ ct_bud 67 = (0, 0) := by decide +kernel
theorem gd_i32Z {r : Nat → Int} (hE : ai_gE r zxY.1) : (-2147483648 ≤ r 728 ∧ r 728 ≤ 2147483647) ∧ (-2147483648 ≤ r 729 ∧ r 729 ≤ 2147483647) ∧ -2147483648 ≤ r 727 ∧ r 727 ≤ 2147483647 := by
  have w : ((728, ((-2147483648 : Int), (2147483647 : Int))) ∈ zxE.2.1 ∧ (729, ((-2147483648 : Int), (2147483647 : Int))) ∈ zxE.2.1) ∧ (727, ((-2147483648 : Int), (2147483647 : Int))) ∈ zxE.2.1 := by decide +kernel
  exact ⟨(hE.2.2.2.1 _ w.1.1).2, (hE.2.2.2.1 _ w.1.2).2, (hE.2.2.2.1 _ w.2).2⟩
theorem jo_MZ {n : Nat} (hn : 4 ≤ n) : pt_Met (n + 1) 67 zxY (ak_tLZ 727) (fun r _ => r 727 ∈ ak_opsZ) (fun r M r2 M2 o => o = some (ak_jZ (r 727) (r 728) (r 729)) ∧ (∀ t, t < 727 → r2 t = r t) ∧ M2 = M) 1 := by
  refine pt_intro (L0 := ak_tLZ 727) jo_kZ.2.1 hn zxsys (by
    rw [jo_kZ.1.2]
    rfl) (fun P r M h hp => ?_)
  have h' := h
  obtain ⟨-, henv, -⟩ := h'
  refine henv _ _ _ _ _ (fun hE _ => ?_)
  obtain ⟨b1, b2, -⟩ := gd_i32Z hE
  exact ak_twoZ (c := r 727) h jo_cZ jo_kZ.1.1 hp rfl b1 b2 (fun r2 f => ⟨rfl, f, rfl⟩)
noncomputable def pu_LZ (v : Nat) : List ai_V := [wa_r (46 + 6 * v), wa_i 727]
noncomputable def pu_dZ (v : Nat) : Nat := 12 + 8 * v
theorem pu_cZ : (List.range 4).all (fun v => (pt_row zxY 68 [15] true (0, 0, 0) (pu_LZ v) [] [] [(pu_dZ v, (0, 47))] [] [] [((15, 0, 0), (pu_LZ v, [wa_r (49 + 6 * v), wa_i (pu_dZ v)]), [], [])] && pt_row zxY 68 [28, 39] false (16, 0, 0) (pu_LZ v) [wa_k 48, wa_i (pu_dZ v)] [] [(pu_dZ v, (0, 47))] [] [] [((28, 0, 0), (pu_LZ v, [wa_i 727, wa_i (pu_dZ v), wa_r (49 + 6 * v)]), [], [])]) && pt_row zxY 68 [39] false (29, 0, 0) (pu_LZ v) [] [] [(pu_dZ v, (0, 47))] [] [] [((39, 0, 0), (pu_LZ v, []), [(pu_dZ v, gz_d (pu_dZ v) 1)], [])]) = true := by decide +kernel
theorem pu_kZ : (List.range 4).all (fun v => pt_nck zxY 68 15 (49 + 6 * v) 48 && pt_sck zxY 68 28 2 (49 + 6 * v) 48 0) = true ∧ (pt_is 7 68 39 = true ∧ (ct_mt 68).2.2.1 = 2) ∧ lh_plain 68 = true ∧ ct_bud 68 = (0, 0) := by decide +kernel
theorem pu_MZ {n v : Nat} {st : List Int} (hn : 4 ≤ n) (hv : v < 4) (hs : st.length < 48) : pt_Met (n + 1) 68 zxY (pu_LZ v) (fun r M => r (pu_dZ v) = (st.length : Int) ∧ ak_atZ (49 + 6 * v) st M) (fun r M r2 M2 o => o = none ∧ (r2 (pu_dZ v) = ((r 727 :: st).length : Int) ∧ ak_atZ (49 + 6 * v) (r 727 :: st) M2) ∧ (∀ t, t < 727 → t ≠ pu_dZ v → r2 t = r t) ∧ ∀ z, z ≠ 49 + 6 * v → M2 z = M z) 0 := by
  refine pt_introN (L0 := pu_LZ v) pu_kZ.2.2.1 hn zxsys (by
    rw [pu_kZ.2.1.2]
    rfl) (fun P r M h hlen hp => ?_)
  have h' := h
  obtain ⟨hseg, -, -, -, -, -, hst, -, -, -, -, -, -, hvret⟩ := h'
  have cc := List.all_eq_true.mp pu_cZ v (List.mem_range.mpr hv)
  simp only [Bool.and_eq_true] at cc
  obtain ⟨⟨c1, c2⟩, c3⟩ := cc
  have ck := List.all_eq_true.mp pu_kZ.1 v (List.mem_range.mpr hv)
  rw [Bool.and_eq_true] at ck
  obtain ⟨p1, p2⟩ := hp
  have bd : (0 : Int) ≤ r (pu_dZ v) ∧ r (pu_dZ v) ≤ 47 := by omega
  refine hseg _ _ _ _ _ r M _ _ _ _ _ c1 ⟨pt_m0, pt_m1 bd, pt_m0⟩ ⟨fun _ => ?_, trivial⟩
  refine hlen (15, 0, 0) _ [wa_i (pu_dZ v)] r _ (49 + 6 * v) 48 ck.1 ?_
  refine hseg _ _ _ _ _ r M _ _ _ _ _ c2 ⟨pt_m0, pt_m1 bd, pt_m0⟩ ⟨fun _ => ?_, trivial⟩
  refine hst (28, 0, 0) _ [] r M (49 + 6 * v) 48 st.length (pu_dZ v, 0) (727, 0) ck.2 (by omega) (by show r (pu_dZ v) + 0 = _; omega) ?_
  have ev : ai_vx r (727, 0) = r 727 := Int.add_zero _
  rw [ev]
  refine hseg _ _ _ _ _ r _ _ _ _ _ _ c3 ⟨pt_m0, pt_m1 bd, pt_m0⟩ ⟨fun _ => ?_, trivial⟩
  obtain ⟨r2, hr2⟩ : ∃ r2, r2 = pt_up r [(pu_dZ v, gz_d (pu_dZ v) 1)] := ⟨_, rfl⟩
  show P (39, 0, 0) (pu_LZ v) [] (pt_up r [(pu_dZ v, gz_d (pu_dZ v) 1)]) _
  rw [← hr2]
  have v2 : ∀ t, r2 t = if t = pu_dZ v then r (pu_dZ v) + 1 else r t := fun t => by
    rw [hr2]
    rfl
  refine hvret (39, 0, 0) _ r2 _ rfl pu_kZ.2.1.1 (by decide +kernel) (by decide +kernel) ⟨rfl, ⟨?_, ak_at_pushZ p2⟩, fun t _ b => ?_, fun z hz => ?_⟩
  · rw [v2, if_pos rfl, p1, List.length_cons]
    omega
  · rw [v2, if_neg b]
  · funext x
    exact if_neg (fun w => hz w.1)
noncomputable def qp_LZ (v : Nat) : List ai_V := [wa_r (46 + 6 * v)]
theorem qp_cZ : (List.range 4).all (fun v => pt_row zxY 69 [15] true (0, 0, 0) (qp_LZ v) [] [] [(pu_dZ v, (1, 48))] [] [] [((15, 0, 0), (qp_LZ v, [wa_r (49 + 6 * v), wa_i (pu_dZ v)]), [], [])] && pt_row zxY 69 [20, 39] false (16, 0, 0) (qp_LZ v) [wa_k 48, wa_i (pu_dZ v)] [] [(pu_dZ v, (1, 48))] [] [] [((39, 0, 0), (qp_LZ v, [wa_i (pu_dZ v), wa_r (49 + 6 * v)]), [(pu_dZ v, gz_d (pu_dZ v) (-1))], [])]) = true := by decide +kernel
theorem qp_kZ : (List.range 4).all (fun v => pt_nck zxY 69 15 (49 + 6 * v) 48 && pt_lck zxY 69 39 1 (49 + 6 * v) 48 0 809 (qp_LZ v) []) = true ∧ (pt_is 5 69 40 = true ∧ (ct_mt 69).2.2.1 = 1) ∧ lh_plain 69 = true ∧ ct_bud 69 = (0, 0) := by decide +kernel
theorem qp_MZ {n v : Nat} {x : Int} {st : List Int} (hn : 4 ≤ n) (hv : v < 4) (hs : st.length < 48) : pt_Met (n + 1) 69 zxY (qp_LZ v) (fun r M => r (pu_dZ v) = ((x :: st).length : Int) ∧ ak_atZ (49 + 6 * v) (x :: st) M) (fun r M r2 M2 o => o = some x ∧ (r2 (pu_dZ v) = (st.length : Int) ∧ ak_atZ (49 + 6 * v) st M2) ∧ (∀ t, t < 727 → t ≠ pu_dZ v → r2 t = r t) ∧ M2 = M) 1 := by
  refine pt_introN (L0 := qp_LZ v) qp_kZ.2.2.1 hn zxsys (by
    rw [qp_kZ.2.1.2]
    rfl) (fun P r M h hlen hp => ?_)
  have h' := h
  obtain ⟨hseg, -, -, -, hld, -, -, -, -, -, hret, -⟩ := h'
  have cc := List.all_eq_true.mp qp_cZ v (List.mem_range.mpr hv)
  simp only [Bool.and_eq_true] at cc
  obtain ⟨c1, c2⟩ := cc
  have ck := List.all_eq_true.mp qp_kZ.1 v (List.mem_range.mpr hv)
  rw [Bool.and_eq_true] at ck
  obtain ⟨p1, p2⟩ := hp
  rw [List.length_cons] at p1
  have bd : (1 : Int) ≤ r (pu_dZ v) ∧ r (pu_dZ v) ≤ 48 := by omega
  refine hseg _ _ _ _ _ r M _ _ _ _ _ c1 ⟨pt_m0, pt_m1 bd, pt_m0⟩ ⟨fun _ => ?_, trivial⟩
  refine hlen (15, 0, 0) _ [wa_i (pu_dZ v)] r _ (49 + 6 * v) 48 ck.1 ?_
  refine hseg _ _ _ _ _ r M _ _ _ _ _ c2 ⟨pt_m0, pt_m1 bd, pt_m0⟩ ⟨fun _ => ?_, trivial⟩
  obtain ⟨r2, hr2⟩ : ∃ r2, r2 = pt_up r [(pu_dZ v, gz_d (pu_dZ v) (-1))] := ⟨_, rfl⟩
  show P (39, 0, 0) (qp_LZ v) (.inl (pu_dZ v, 0) :: .inr (.inr (some (some (49 + 6 * v)))) :: []) (pt_up r [(pu_dZ v, gz_d (pu_dZ v) (-1))]) _
  rw [← hr2]
  have v2 : ∀ t, r2 t = if t = pu_dZ v then r (pu_dZ v) + -1 else r t := fun t => by
    rw [hr2]
    rfl
  have d2 : r2 (pu_dZ v) = (st.length : Int) := by
    rw [v2, if_pos rfl]
    omega
  refine hld (39, 0, 0) _ [] r2 M (49 + 6 * v) 48 809 st.length (pu_dZ v, 0) ck.2 (by omega) (by show r2 (pu_dZ v) + 0 = _; omega) ?_
  rw [ak_at_topZ p2]
  have n3 : ∀ t, t ≠ 809 → pt_set r2 809 x t = r2 t := fun t a => if_neg a
  have pd : pu_dZ v ≠ 809 := by
    unfold pu_dZ
    omega
  refine hret (40, 0, 0) _ (809, 0) _ M rfl qp_kZ.2.1.1 (by decide +kernel) (by decide +kernel) ⟨?_, ⟨(n3 _ pd).trans d2, ak_at_popZ p2⟩, fun t a b => ?_, rfl⟩
  · show some (pt_set r2 809 x 809 + 0) = _
    rw [Int.add_zero]
    exact congrArg some (if_pos rfl)
  · rw [n3 t (by omega), v2, if_neg b]
