/-! ASKED (the reference): what is asked of one unit -/
noncomputable def ro_L (v : Nat) (a b c d : ai_V) : List ai_V := [wa_r 264, wa_k v, wa_i 425, wa_i 426, wa_i 427, a, b, c, d]
noncomputable def ro_i (v : Nat) : ai_V := .inl (429, .ofNat (8 * v))
noncomputable def ro_h (v : Nat) : List ai_V := ro_L v (wa_i 428) (wa_i 429) wa_u wa_u
noncomputable def ro_g (v : Nat) : List ai_V := ro_L v (wa_i 428) (wa_i 429) (ro_i v) wa_u
noncomputable def ro_f (v : Nat) : List ai_V := ro_L v (wa_i 428) (wa_i 429) (ro_i v) (wa_i 430)
noncomputable def ro_c (v : Nat) : List ai_V := [wa_r 264, wa_k v, ro_i v]
noncomputable abbrev ro_r (st : List Nat) (sk : Bool) (pc : Nat) (L S : List ai_V) (cp : List (Nat × Int × Int)) (le : List (ai_X × ai_X)) (pc2 : Nat) (L2 S2 : List ai_V) (W : List (Nat × pt_X)) : Bool := pt_row geY 207 st sk (pc, 0, 0) L S [] cp le [291] [((pc2, 0, 0), (L2, S2), W, [])]
theorem ro_c1 : (List.range 4).all (fun v => (ro_r [15, 68] true 0 (ro_L v wa_u wa_u wa_u wa_u) [] [(369 + v, (0, 0))] [] 15 (ro_L v wa_u wa_u wa_u wa_u) [wa_i (149 + v)] [] && ro_r [15, 68] true 0 (ro_L v wa_u wa_u wa_u wa_u) [] [(369 + v, (1, 1))] [] 68 (ro_h v) [] [(419, gz_p 425), (419 + 1, gz_p 426), (419 + 2, gz_p 427), (419 + 3, gz_p (149 + v)), (419 + 4, gz_p (145 + v)), (428, gz_k 0), (429, gz_k 0)]) &&
    ((ro_r [75] false 68 (ro_h v) [] [] [] 75 (ro_h v) [wa_k v, wa_r 286, wa_i 429] [] && ro_r [92, 130] false 76 (ro_h v) [wa_i 504, wa_i 429] [(504, (1, 8)), (429, (0, 7))] [((429, 1), (504, 0))] 92 (ro_g v) [ro_i v, wa_k v, wa_r 264] []) && (ro_r [92, 130] false 76 (ro_h v) [wa_i 504, wa_i 429] [(504, (0, 8)), (429, (0, 8))] [((504, 0), (429, 0))] 130 (ro_h v) [] [] && ro_r [103] false 95 (ro_g v) [wa_i 504] [(429, (0, 7))] [] 103 (ro_f v) [ro_i v, wa_r 287] [(430, gz_p 504)]))) = true := by decide +kernel
theorem ro_c2 : (List.range 4).all (fun v => (ro_r [68, 117] false 104 (ro_f v) [wa_i 504] [(504, (0, 0)), (429, (0, 7))] [] 68 (ro_h v) [] [(428, [(0, 428, 0), (0, 430, 0), (2, 0, 0)]), (429, gz_d 429 1)] && ro_r [68, 117] false 104 (ro_f v) [wa_i 504] [(504, (1, 1)), (429, (0, 7))] [] 117 (ro_f v) [] []) &&
    ((ro_r [68, 123] false 117 (ro_f v) [] [(430, (0, 0))] [] 123 (ro_f v) [.inl (0, -1)] [] && ro_r [68, 123] false 117 (ro_f v) [] [(430, ak_p), (429, (0, 7))] [] 68 (ro_h v) [] [(429, gz_d 429 1)]) && (ro_r [68, 123] false 117 (ro_f v) [] [(430, ak_n), (429, (0, 7))] [] 68 (ro_h v) [] [(429, gz_d 429 1)] && ro_r [142] false 130 (ro_h v) [] [] [] 142 (ro_h v) [wa_i 504] [(504, [(1, 0, 0), (1, 0, 9999), (0, 428, 0), (2, 12, 0), (2, 11, 0)])]))) = true := by decide +kernel
theorem ro_k : (List.range 4).all (fun v => (pt_lck geY 207 75 1 286 5 0 504 (ro_h v) [wa_i 429] && pt_lck geY 207 103 1 287 40 0 504 (ro_f v) []) && (cy_vk 207 92 206 geY.2.1 [ro_i v, wa_k v, wa_r 264] (ro_c v) [] && pt_cck geY 207 206 (92, 0, 0) 1 504 (ro_g v) [] (ro_c v) wk2_a)) = true ∧ ((pt_is 5 207 15 = true ∧ pt_is 5 207 123 = true ∧ pt_is 5 207 142 = true) ∧ (ct_mt 207).2.2.1 = 9) ∧ lh_plain 207 = true ∧ ct_bud 207 = (0, 0) := by decide +kernel
section ROS
variable {n v : Nat} {Z : (Nat → Int) → (Nat → Nat → Int) → Option Int → Prop} {P : pt_P} {V : Nat → Int} {cls : List (List Int × Int)} {r0 : Nat → Int} {M0 : Nat → Nat → Int}
theorem ro_loop (h : pt_Cl (n + 1 + 1) 207 geY 1 Z P) (hn : 4 ≤ n) (hv : v < 4) (hw : rk_wf cls) (hK : go_K v (ps_jn cls) M0) (hV : ∀ k, k < 5 → r0 (419 + k) = V k)
    (hz : ∀ r2 M2 a, a = rk_ans (rk_run V cls 0) → (∀ t, t < 424 → r2 t = r0 t) → (∀ z, z ≠ 292 → M2 z = M0 z) → Z r2 M2 (some a)) :
    ∀ (rest pre : List (List Int × Int)) (s : Int) (r : Nat → Int) (M : Nat → Nat → Int), pre ++ rest = cls → rk_run V rest s = rk_run V cls 0 → (r 428 = s ∧ r 429 = (pre.length : Int)) → (∀ t, t < 424 → r t = r0 t) → (∀ z, z ≠ 292 → M z = M0 z) → P (68, 0, 0) (ro_h v) [] r M := by
  have h' := h
  obtain ⟨hseg, henv, -, -, hld, -, -, -, hcall, -, hret, -⟩ := h'
  have q1 := List.all_eq_true.mp ro_c1 v (List.mem_range.mpr hv)
  simp only [Bool.and_eq_true] at q1
  obtain ⟨-, ⟨c1, c2⟩, c3, c4⟩ := q1
  have q2 := List.all_eq_true.mp ro_c2 v (List.mem_range.mpr hv)
  simp only [Bool.and_eq_true] at q2
  obtain ⟨⟨d1, d2⟩, ⟨d3, d4⟩, d5, d6⟩ := q2
  have qk := List.all_eq_true.mp ro_k.1 v (List.mem_range.mpr hv)
  rw [Bool.and_eq_true, Bool.and_eq_true, Bool.and_eq_true] at qk
  obtain ⟨⟨k1, k2⟩, k3, k4⟩ := qk
  obtain ⟨l200, ⟨l8, e286⟩, tbl, cds⟩ := hK
  rw [gb_jl hw] at l8 e286 tbl
  have l400 : (gb_cs (ps_jn cls)).length ≤ 400 := Nat.le_trans (gb_l2 _) (by omega)
  -- the head: how many clauses there are
  have head : ∀ (i : Nat) (s : Int) (r : Nat → Int) (M : Nat → Nat → Int), (r 428 = s ∧ r 429 = (i : Int)) → (∀ t, t < 424 → r t = r0 t) → (∀ z, z ≠ 292 → M z = M0 z) → (∀ r2 : Nat → Int, r2 504 = (cls.length : Int) → (r2 428 = s ∧ r2 429 = (i : Int)) → (∀ t, t < 424 → r2 t = r0 t) → P (76, 0, 0) (ro_h v) [wa_i 504, wa_i 429] r2 M) → P (68, 0, 0) (ro_h v) [] r M := fun i s r M he fr fM k => by
    refine henv _ _ _ _ _ (fun hE _ => ?_)
    have h0 : r 0 = 0 := hE.1
    refine hseg _ _ _ _ _ r M _ _ _ _ _ c1 ⟨pt_m0, pt_m0, pt_m0⟩ ⟨fun _ => ?_, trivial⟩
    refine hld (75, 0, 0) _ [wa_i 429] r M 286 5 504 v (0, .ofNat v) k1 (by omega) (by show r 0 + (v : Int) = (v : Int); rw [h0, Int.zero_add]) ?_
    rw [fM 286 (by omega), e286]
    obtain ⟨r1, hr1⟩ : ∃ r1, r1 = pt_set r 504 (cls.length : Int) := ⟨_, rfl⟩
    show P (76, 0, 0) (ro_h v) [wa_i 504, wa_i 429] (pt_set r 504 (cls.length : Int)) M
    rw [← hr1]
    have n1 : ∀ t, t ≠ 504 → r1 t = r t := fun t a => by
      rw [hr1]
      exact if_neg a
    exact k r1 (by rw [hr1]; exact gz_sset) ⟨(n1 _ (by omega)).trans he.1, (n1 _ (by omega)).trans he.2⟩ (fun t a => (n1 t (by omega)).trans (fr t a))
  intro rest
  induction rest with
  | nil =>
    intro pre s r M hp hr he fr fM
    rw [List.append_nil] at hp
    refine head pre.length s r M he fr fM (fun r1 a1 a2 a3 => ?_)
    rw [← hp] at a1
    rw [← hp] at l8
    refine hseg _ _ _ _ _ r1 M _ _ _ _ _ c3 ⟨pt_m0, pt_m2 ⟨by show (0 : Int) ≤ r1 504; omega, by show r1 504 ≤ 8; omega⟩ ⟨by show (0 : Int) ≤ r1 429; omega, by show r1 429 ≤ 8; omega⟩, pt_m1 (by show r1 504 + 0 ≤ r1 429 + 0; omega)⟩ ⟨fun _ => ?_, trivial⟩
    refine hseg _ _ _ _ _ r1 M _ _ _ _ _ d6 ⟨pt_m0, pt_m0, pt_m0⟩ ⟨fun _ => ?_, trivial⟩
    obtain ⟨r2, hr2⟩ : ∃ r2, r2 = pt_up r1 [(504, [(1, 0, 0), (1, 0, 9999), (0, 428, 0), (2, 12, 0), (2, 11, 0)])] := ⟨_, rfl⟩
    show P (142, 0, 0) (ro_h v) [.inl (504, 0)] (pt_up r1 [(504, [(1, 0, 0), (1, 0, 9999), (0, 428, 0), (2, 12, 0), (2, 11, 0)])]) M
    rw [← hr2]
    have v2 : ∀ t, r2 t = if t = 504 then av_cap (r1 428) else r1 t := fun t => by
      rw [hr2]
      rfl
    refine hret (142, 0, 0) _ (504, 0) r2 M rfl ro_k.2.1.1.2.2 (by decide +kernel) (by decide +kernel) (hz r2 M _ ?_ (fun t a => ?_) fM)
    · rw [← hr]
      show r2 504 + 0 = av_cap s
      rw [Int.add_zero, v2, if_pos rfl, a2.1]
    · rw [v2, if_neg (by omega)]
      exact a3 t a
  | cons q rest ih =>
    intro pre s r M hp hr he fr fM
    have hp2 : (pre ++ [q]) ++ rest = cls := by
      rw [List.append_assoc]
      exact hp
    have lp : (pre ++ [q]).length = pre.length + 1 := by
      rw [List.length_append]
      rfl
    have ll : pre.length < cls.length := by
      rw [← hp, List.length_append, List.length_cons]
      omega
    obtain ⟨h1, h2, h3⟩ := hw q (by rw [← hp]; exact List.mem_append_right _ List.mem_cons_self)
    obtain ⟨⟨g1, g2⟩, g3⟩ := gb_jx (pre := pre) (q := q) (rest := rest) (s := 0) (by rw [hp]; exact hw)
    rw [hp] at g1 g2 g3
    obtain ⟨a, ha⟩ : ∃ a, a = (gb_cs (ps_jn pre)).length := ⟨_, rfl⟩
    rw [← ha, Nat.zero_add] at g1
    rw [← ha] at g2 g3
    obtain ⟨t1, t2, t3⟩ := tbl pre.length ll
    rw [g1] at t1 t2 t3
    refine head pre.length s r M he fr fM (fun r1 a1 a2 a3 => ?_)
    refine hseg _ _ _ _ _ r1 M _ _ _ _ _ c2 ⟨pt_m0, pt_m2 ⟨by show (1 : Int) ≤ r1 504; omega, by show r1 504 ≤ 8; omega⟩ ⟨by show (0 : Int) ≤ r1 429; omega, by show r1 429 ≤ 7; omega⟩, pt_m1 (by show r1 429 + 1 ≤ r1 504 + 0; omega)⟩ ⟨fun _ => ?_, trivial⟩
    show P (92, 0, 0) (ro_g v) [ro_i v, wa_k v, wa_r 264] r1 M
    refine henv _ _ _ _ _ (fun hE1 _ => ?_)
    have h10 : r1 0 = 0 := hE1.1
    obtain ⟨r6, hr6⟩ : ∃ r6, r6 = pt_up r1 (pt_wc (ro_c v) wk2_a) := ⟨_, rfl⟩
    have v6 : ∀ t, r6 t = if t = 424 then (v : Int) else if t = 425 then r1 429 + ((8 * v : Nat) : Int) else r1 t := fun t => by
      have e1 : pt_v r1 (pt_xr (0, .ofNat v)) = (v : Int) := by
        rw [pt_xr_ok h10]
        show r1 0 + (v : Int) = _
        rw [h10, Int.zero_add]
      have e2 : pt_v r1 (pt_xr (429, .ofNat (8 * v))) = r1 429 + ((8 * v : Nat) : Int) := by
        rw [pt_xr_ok h10]
        rfl
      rw [hr6, ← e2, ← e1]
      rfl
    have lc : 8 * v + pre.length < 32 := by omega
    refine hcall (92, 0, 0) _ _ _ _ _ r1 M 206 1 504 _ _ wk2_k2.2.2.1 k3 k4 (wk2_M (n := n) (v := v) (ci := 8 * v + pre.length) (s0 := a) (V := V) (m := q.1) hn hv lc (Nat.le_trans g2 l400) h3) (by
      rw [← hr6]
      refine ⟨⟨⟨?_, ?_⟩, fun k hk => ?_⟩, ⟨?_, ?_⟩, fun x hx => ?_⟩
      · rw [v6, if_pos rfl]
      · rw [v6, if_neg (by omega), if_pos rfl, a2.2]
        omega
      · rw [v6, if_neg (by omega), if_neg (by omega), a3 _ (by omega)]
        exact hV k hk
      · rw [fM 288 (by omega)]
        exact t2
      · rw [fM 289 (by omega)]
        exact t3
      · rw [fM 290 (by omega), Nat.add_assoc, cds (a + x) (by omega)]
        exact g3 x hx) (fun r7 M7 o hq => ?_)
    rw [← hr6] at hq
    obtain ⟨rc, rs⟩ := wa_rm (n := n + 1 + 1) wk2_k2.2.2.2
    rw [rc, rs]
    obtain ⟨rfl, y2, y3⟩ := hq
    obtain ⟨x, hx⟩ : ∃ x, x = (av_sts V q.1 []).getD 0 0 := ⟨_, rfl⟩
    rw [← hx]
    obtain ⟨r8, hr8⟩ : ∃ r8, r8 = pt_mrg 424 r1 r7 504 (some x) := ⟨_, rfl⟩
    show P (95, 0, 0) (ro_g v) [wa_i 504] (pt_mrg 424 r1 r7 504 (some x)) _
    rw [← hr8]
    have lo8 : ∀ t, t < 424 → r8 t = r0 t := fun t ht => by
      rw [hr8, wa_mlt ht, y2 t ht, v6, if_neg (by omega), if_neg (by omega)]
      exact a3 t ht
    have hi8 : ∀ t, 424 ≤ t → t ≠ 504 → r8 t = r1 t := fun t ht hne => by
      rw [hr8]
      show (if t < 424 then r7 t else if t = 504 then x else r1 t) = r1 t
      rw [if_neg (by omega), if_neg hne]
    have t8 : r8 504 = x := by
      rw [hr8]
      exact wa_mz (by omega)
    have e8 : r8 428 = s ∧ r8 429 = (pre.length : Int) := ⟨(hi8 _ (by omega) (by omega)).trans a2.1, (hi8 _ (by omega) (by omega)).trans a2.2⟩
    have f7 : ∀ z, z ≠ 292 → M7 z = M0 z := fun z w => (y3 z w).trans (fM z w)
    refine henv _ _ _ _ _ (fun hE8 _ => ?_)
    have b32 := (ge_i32 hE8).2
    refine hseg _ _ _ _ _ r8 M7 _ _ _ _ _ c4 ⟨pt_m0, pt_m1 ⟨by show (0 : Int) ≤ r8 429; omega, by show r8 429 ≤ 7; omega⟩, pt_m0⟩ ⟨fun _ => ?_, trivial⟩
    obtain ⟨r9, hr9⟩ : ∃ r9, r9 = pt_up r8 [(430, gz_p 504)] := ⟨_, rfl⟩
    show P (103, 0, 0) (ro_f v) [ro_i v, wa_r 287] (pt_up r8 [(430, gz_p 504)]) M7
    rw [← hr9]
    have v9 : ∀ t, r9 t = if t = 430 then r8 504 else r8 t := fun t => by
      rw [hr9]
      rfl
    refine hld (103, 0, 0) _ [] r9 M7 287 40 504 (8 * v + pre.length) (429, .ofNat (8 * v)) k2 (by omega) (by show r9 429 + ((8 * v : Nat) : Int) = _; rw [v9, if_neg (by omega), e8.2]; omega) ?_
    rw [f7 287 (by omega), t1]
    obtain ⟨rA, hrA⟩ : ∃ rA, rA = pt_set r9 504 (-15 - q.2) := ⟨_, rfl⟩
    show P (104, 0, 0) (ro_f v) [wa_i 504] (pt_set r9 504 (-15 - q.2)) M7
    rw [← hrA]
    have nA : ∀ t, t ≠ 504 → rA t = r9 t := fun t w => by
      rw [hrA]
      exact if_neg w
    have tA : rA 504 = -15 - q.2 := by
      rw [hrA]
      exact gz_sset
    have eA : (rA 428 = s ∧ rA 429 = (pre.length : Int)) ∧ rA 430 = x := ⟨⟨by rw [nA _ (by omega), v9, if_neg (by omega)]; exact e8.1, by rw [nA _ (by omega), v9, if_neg (by omega)]; exact e8.2⟩, by rw [nA _ (by omega), v9, if_pos rfl, t8]⟩
    have fA : ∀ t, t < 424 → rA t = r0 t := fun t w => by
      rw [nA t (by omega), v9, if_neg (by omega)]
      exact lo8 t w
    have bE : (0 : Int) ≤ rA 429 ∧ rA 429 ≤ 7 := by
      have := eA.1.2
      omega
    have er : rk_run V (q :: rest) s = if q.2 = -15 then rk_run V rest (ai_op 0 s x) else if x = 0 then none else rk_run V rest s := by
      rw [hx]
      rfl
    rcases h1 with w | w
    · refine hseg _ _ _ _ _ rA M7 _ _ _ _ _ d1 ⟨pt_m0, pt_m2 ⟨by show (0 : Int) ≤ rA 504; omega, by show rA 504 ≤ 0; omega⟩ bE, pt_m0⟩ ⟨fun _ => ?_, trivial⟩
      obtain ⟨rB, hrB⟩ : ∃ rB, rB = pt_up rA [(428, [(0, 428, 0), (0, 430, 0), (2, 0, 0)]), (429, gz_d 429 1)] := ⟨_, rfl⟩
      show P (68, 0, 0) (ro_h v) [] (pt_up rA [(428, [(0, 428, 0), (0, 430, 0), (2, 0, 0)]), (429, gz_d 429 1)]) M7
      rw [← hrB]
      have vB : ∀ t, rB t = if t = 428 then ai_op 0 (rA 428) (rA 430) else if t = 429 then rA 429 + 1 else rA t := fun t => by
        rw [hrB]
        rfl
      rw [er, if_pos w] at hr
      refine ih (pre ++ [q]) (ai_op 0 s x) rB M7 hp2 hr ⟨by rw [vB, if_pos rfl, eA.1.1, eA.2], by rw [vB, if_neg (by omega), if_pos rfl, eA.1.2, lp]; omega⟩ (fun t b => ?_) f7
      rw [vB, if_neg (by omega), if_neg (by omega)]
      exact fA t b
    · refine hseg _ _ _ _ _ rA M7 _ _ _ _ _ d2 ⟨pt_m0, pt_m2 ⟨by show (1 : Int) ≤ rA 504; omega, by show rA 504 ≤ 1; omega⟩ bE, pt_m0⟩ ⟨fun _ => ?_, trivial⟩
      rw [er, if_neg (by omega)] at hr
      have go : x ≠ 0 → ∀ rB, rB = pt_up rA [(429, gz_d 429 1)] → P (68, 0, 0) (ro_h v) [] rB M7 := fun x0 rB hrB => by
        have vB : ∀ t, rB t = if t = 429 then rA 429 + 1 else rA t := fun t => by
          rw [hrB]
          rfl
        rw [if_neg x0] at hr
        refine ih (pre ++ [q]) s rB M7 hp2 hr ⟨by rw [vB, if_neg (by omega), eA.1.1], by rw [vB, if_pos rfl, eA.1.2, lp]; omega⟩ (fun t b => ?_) f7
        rw [vB, if_neg (by omega)]
        exact fA t b
      have e6 := eA.2
      rcases (by omega : x = 0 ∨ 1 ≤ x ∨ x ≤ -1) with z | z | z
      · refine hseg _ _ _ _ _ rA M7 _ _ _ _ _ d3 ⟨pt_m0, pt_m1 ⟨by show (0 : Int) ≤ rA 430; omega, by show rA 430 ≤ 0; omega⟩, pt_m0⟩ ⟨fun _ => ?_, trivial⟩
        refine hret (123, 0, 0) _ (0, -1) rA M7 rfl ro_k.2.1.1.2.1 (by decide +kernel) (by decide +kernel) (hz rA M7 _ ?_ fA f7)
        rw [← hr, if_pos z]
        show rA 0 + -1 = -1
        rw [fA 0 (by omega), ← a3 0 (by omega), h10]
        rfl
      · refine hseg _ _ _ _ _ rA M7 _ _ _ _ _ d4 ⟨pt_m0, pt_m2 ⟨by show (1 : Int) ≤ rA 430; omega, by show rA 430 ≤ 2147483647; omega⟩ bE, pt_m0⟩ ⟨fun _ => ?_, trivial⟩
        exact go (by omega) _ rfl
      · refine hseg _ _ _ _ _ rA M7 _ _ _ _ _ d5 ⟨pt_m0, pt_m2 ⟨by show (-2147483648 : Int) ≤ rA 430; omega, by show rA 430 ≤ -1; omega⟩ bE, pt_m0⟩ ⟨fun _ => ?_, trivial⟩
        exact go (by omega) _ rfl
end ROS
noncomputable def ro_a : List ai_V := [wa_r 264, wa_i 424, wa_i 425, wa_i 426, wa_i 427]
noncomputable def ro_P (v : Nat) (V : Nat → Int) (l : List Int) (r : Nat → Int) (M : Nat → Nat → Int) : Prop := ((r 424 = (v : Int) ∧ r 425 = V 0) ∧ r 426 = V 1 ∧ r 427 = V 2) ∧ (r (149 + v) = V 3 ∧ r (145 + v) = V 4) ∧ (r (369 + v) = if l = [] then 0 else 1) ∧ go_K v l M
noncomputable def ro_Q (V : Nat → Int) (l : List Int) (r : Nat → Int) (M : Nat → Nat → Int) (r2 : Nat → Int) (M2 : Nat → Nat → Int) (o : Option Int) : Prop := o = some (av_ask V l) ∧ (∀ t, t < 424 → ¬ (419 ≤ t ∧ t < 419 + 5) → r2 t = r t) ∧ ∀ z, z ≠ 292 → M2 z = M z
theorem ro_M {n v : Nat} {V : Nat → Int} {l : List Int} (hn : 4 ≤ n) (hv : v < 4) (hg : ps_gc l) : pt_Met (n + 1 + 1 + 1) 207 geY ro_a (ro_P v V l) (ro_Q V l) 1 := by
  refine pt_intro (L0 := [wa_r 264, wa_i 424, wa_i 425, wa_i 426, wa_i 427, wa_u, wa_u, wa_u, wa_u]) ro_k.2.2.1 (by omega) gesys (by
    rw [ro_k.2.1.2]
    rfl) (fun P r M h hp => ?_)
  have h' := h
  obtain ⟨hseg, henv, hrel, -, -, -, -, -, -, -, hret, -⟩ := h'
  obtain ⟨⟨⟨p0, p1⟩, p2, p3⟩, ⟨p4, p5⟩, p6, p7⟩ := hp
  obtain ⟨cls, hl, hw⟩ := hg
  refine henv _ _ _ _ _ (fun hE _ => ?_)
  have h0 : r 0 = 0 := hE.1
  refine hrel (0, 0, 0) _ (ro_L v wa_u wa_u wa_u wa_u) [] [] r M ⟨rfl, ⟨by show 0 < 524; omega, by show r 424 + 0 = r 0 + (v : Int); omega⟩, ⟨by show 425 < 524; omega, rfl⟩, ⟨by show 426 < 524; omega, rfl⟩, ⟨by show 427 < 524; omega, rfl⟩, trivial, trivial, trivial, trivial, trivial⟩ trivial ?_
  have q1 := List.all_eq_true.mp ro_c1 v (List.mem_range.mpr hv)
  simp only [Bool.and_eq_true] at q1
  obtain ⟨⟨c1, c2⟩, -⟩ := q1
  by_cases e : l = []
  · rw [if_pos e] at p6
    refine hseg _ _ _ _ _ r M _ _ _ _ _ c1 ⟨pt_m0, pt_m1 ⟨by show (0 : Int) ≤ r (369 + v); omega, by show r (369 + v) ≤ 0; omega⟩, pt_m0⟩ ⟨fun _ => ?_, trivial⟩
    refine hret (15, 0, 0) _ (149 + v, 0) r M rfl ro_k.2.1.1.1 (by decide +kernel) (by decide +kernel) ⟨congrArg some ?_, fun _ _ _ => rfl, fun _ _ => rfl⟩
    show r (149 + v) + 0 = av_ask V l
    rw [Int.add_zero, p4]
    exact (if_pos e).symm
  · rw [if_neg e] at p6
    have ne : cls ≠ [] := fun w => e (by rw [hl, w]; rfl)
    rw [hl] at p7
    have ea : av_ask V l = rk_ans (rk_run V cls 0) := by
      rw [hl]
      exact rk_ask hw ne
    refine hseg _ _ _ _ _ r M _ _ _ _ _ c2 ⟨pt_m0, pt_m1 ⟨by show (1 : Int) ≤ r (369 + v); omega, by show r (369 + v) ≤ 1; omega⟩, pt_m0⟩ ⟨fun _ => ?_, trivial⟩
    obtain ⟨r2, hr2⟩ : ∃ r2, r2 = pt_up r [(419, gz_p 425), (419 + 1, gz_p 426), (419 + 2, gz_p 427), (419 + 3, gz_p (149 + v)), (419 + 4, gz_p (145 + v)), (428, gz_k 0), (429, gz_k 0)] := ⟨_, rfl⟩
    show P (68, 0, 0) (ro_h v) [] (pt_up r [(419, gz_p 425), (419 + 1, gz_p 426), (419 + 2, gz_p 427), (419 + 3, gz_p (149 + v)), (419 + 4, gz_p (145 + v)), (428, gz_k 0), (429, gz_k 0)]) M
    rw [← hr2]
    have v2 : ∀ t, r2 t = if t = 419 then r 425 else if t = 419 + 1 then r 426 else if t = 419 + 2 then r 427 else if t = 419 + 3 then r (149 + v) else if t = 419 + 4 then r (145 + v) else if t = 428 then 0 else if t = 429 then 0 else r t := fun t => by
      rw [hr2]
      rfl
    refine ro_loop (r0 := r2) (M0 := M) (V := V) h hn hv hw p7 (fun k hk => ?_) (fun r3 M3 a ea2 f3 g3 => ⟨congrArg some (ea2.trans ea.symm), fun t a b => ?_, g3⟩) cls [] 0 r2 M rfl rfl ⟨by rw [v2, if_neg (by omega), if_neg (by omega), if_neg (by omega), if_neg (by omega), if_neg (by omega), if_pos rfl], by rw [v2, if_neg (by omega), if_neg (by omega), if_neg (by omega), if_neg (by omega), if_neg (by omega), if_neg (by omega), if_pos rfl]; rfl⟩ (fun _ _ => rfl) (fun _ _ => rfl)
    · rw [v2]
      rcases (by omega : k = 0 ∨ k = 1 ∨ k = 2 ∨ k = 3 ∨ k = 4) with rfl | rfl | rfl | rfl | rfl
      · rw [if_pos rfl]
        exact p1
      · rw [if_neg (by omega), if_pos rfl]
        exact p2
      · rw [if_neg (by omega), if_neg (by omega), if_pos rfl]
        exact p3
      · rw [if_neg (by omega), if_neg (by omega), if_neg (by omega), if_pos rfl]
        exact p4
      · rw [if_neg (by omega), if_neg (by omega), if_neg (by omega), if_neg (by omega), if_pos rfl]
        exact p5
    · rw [f3 t a, v2, if_neg (by omega), if_neg (by omega), if_neg (by omega), if_neg (by omega), if_neg (by omega), if_neg (by omega), if_neg (by omega)]
