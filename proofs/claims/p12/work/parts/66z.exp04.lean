/-! ASKED (the class): one code of an offer -/
noncomputable def ak_stZ (V : Nat → Int) (c : Int) (st : List Int) : List Int := if 0 ≤ c then c :: st else if -5 ≤ c then V (-1 - c).toNat :: st else if c = -12 then (match st with
  | x :: t => (if x = 0 then 1 else 0) :: t
  | [] => []) else match st with
  | y :: x :: t => ak_jZ c x y :: t
  | _ => []
noncomputable def ak_ok1Z (c : Int) (d : Nat) : Prop := if -5 ≤ c then d < 48 else if c = -12 then 1 ≤ d else c ∈ ak_opsZ ∧ 2 ≤ d
noncomputable def sw_LZ (v : Nat) (a b : ai_V) : List ai_V := [wa_r (46 + 6 * v), wa_i 727, a, b]
noncomputable abbrev sw_rZ (v : Nat) (st : List Nat) (sk : Bool) (pc : Nat) (a b : ai_V) (S : List ai_V) (cp : List (Nat × Int × Int)) (pc2 : Nat) (a2 b2 : ai_V) (S2 : List ai_V) (W : List (Nat × pt_X)) : Bool := pt_row zxY 66 st sk (pc, 0, 0) (sw_LZ v a b) S [] cp [] [] [((pc2, 0, 0), (sw_LZ v a2 b2, S2), W, [])]
noncomputable def sw_vZ (v k : Nat) : Nat := 391 + 5 * v + k
noncomputable def sw_pZ (v pc : Nat) (a b : ai_V) (y : ai_X) : Bool := (cy_vk 66 pc 68 zxY.2.1 [.inl y, wa_r (46 + 6 * v)] [wa_r (46 + 6 * v), .inl y] [] && pt_cck zxY 66 68 (pc, 0, 0) 0 807 (sw_LZ v a b) [] [wa_r (46 + 6 * v), .inl y] (pu_LZ v)) && sw_rZ v [78] false (pc + 3) a b [] [] 78 a b [] []
noncomputable def gd_qZ (mi v pc : Nat) (L S : List ai_V) : Bool := cy_vk mi pc 69 zxY.2.1 (wa_r (46 + 6 * v) :: S) [wa_r (46 + 6 * v)] S && pt_cck zxY mi 69 (pc, 0, 0) 1 807 L S [wa_r (46 + 6 * v)] (qp_LZ v)
noncomputable def sw_qZ (v pc : Nat) (a b : ai_V) (S : List ai_V) : Bool := gd_qZ 66 v pc (sw_LZ v a b) S
theorem sw_c1Z : (List.range 4).all (fun v => (sw_rZ v [6] true 0 wa_u wa_u [] [(727, (0, 2147483647))] 6 wa_u wa_u [wa_i 727, wa_r (46 + 6 * v)] [] && sw_pZ v 6 wa_u wa_u (727, 0)) && (List.range 5).all (fun k => sw_rZ v [6, 27] true 0 wa_u wa_u [] [(727, (.negSucc k, .negSucc k))] 27 wa_u wa_u [wa_i (sw_vZ v k), wa_r (46 + 6 * v)] [] && sw_pZ v 27 wa_u wa_u (sw_vZ v k, 0))) = true := by decide +kernel
theorem sw_c2Z : (List.range 4).all (fun v => (sw_rZ v [41] true 0 wa_u wa_u [] [(727, (-12, -12))] 41 wa_u wa_u [wa_r (46 + 6 * v), wa_r (46 + 6 * v)] [] && sw_qZ v 41 wa_u wa_u [wa_r (46 + 6 * v)]) && ((sw_rZ v [52] false 44 wa_u wa_u [wa_i 807, wa_r (46 + 6 * v)] [(807, (0, 0))] 52 wa_u wa_u [wa_k 1, wa_r (46 + 6 * v)] [] && (sw_rZ v [52] false 44 wa_u wa_u [wa_i 807, wa_r (46 + 6 * v)] [(807, ak_pZ)] 52 wa_u wa_u [wa_k 0, wa_r (46 + 6 * v)] [] && sw_rZ v [52] false 44 wa_u wa_u [wa_i 807, wa_r (46 + 6 * v)] [(807, ak_nZ)] 52 wa_u wa_u [wa_k 0, wa_r (46 + 6 * v)] [])) && (sw_pZ v 52 wa_u wa_u (0, 0) && sw_pZ v 52 wa_u wa_u (0, 1)))) = true := by decide +kernel
theorem sw_c3Z : (List.range 4).all (fun v => ((sw_rZ v [59] true 0 wa_u wa_u [] [(727, (-14, -13))] 59 wa_u wa_u [wa_r (46 + 6 * v)] [] && sw_rZ v [59] true 0 wa_u wa_u [] [(727, (-11, -6))] 59 wa_u wa_u [wa_r (46 + 6 * v)] []) && (sw_qZ v 59 wa_u wa_u [] && sw_rZ v [64] false 62 wa_u wa_u [wa_i 807] [] 64 (wa_i 728) wa_u [wa_r (46 + 6 * v)] [(728, gz_p 807)])) && ((sw_qZ v 64 (wa_i 728) wa_u [] && sw_rZ v [72] false 67 (wa_i 728) wa_u [wa_i 807] [] 72 (wa_i 728) (wa_i 729) [wa_i 728, wa_i 729, wa_i 727, wa_r (46 + 6 * v)] [(729, gz_p 807)]) && ((pt_sk 66 72 67 [wa_i 728, wa_i 729, wa_i 727, wa_r (46 + 6 * v)] [wa_i 727, wa_i 729, wa_i 728] [wa_r (46 + 6 * v)] && pt_cck zxY 66 67 (72, 0, 0) 1 807 (sw_LZ v (wa_i 728) (wa_i 729)) [wa_r (46 + 6 * v)] [wa_i 727, wa_i 729, wa_i 728] (ak_tLZ 727)) && sw_pZ v 75 (wa_i 728) (wa_i 729) (807, 0)))) = true := by decide +kernel
theorem sw_kZ : (pt_is 7 66 78 = true ∧ (ct_mt 66).2.2.1 = 4) ∧ lh_plain 66 = true ∧ ct_bud 66 = (0, 0) := by decide +kernel
theorem sw_xZ : ls_code 66 72 = some (.invokestatic 50, 3, 67, (ct_mt 67).2.2.2.2.2) := by decide +kernel
theorem sw_yZ : Cond.methodLink (ct_mt 66).1.cls 50 (ct_mt 67).1 ∈ ft_W := by decide +kernel
theorem sw_sZ : (ct_mt 67).2.2.2.2.1.isSome = true ∨ (∀ idx, ls_code 66 72 = some (.invokestatic idx, 3, 67, (ct_mt 67).2.2.2.2.2) → Cond.methodLink (ct_mt 66).1.cls idx (ct_mt 67).1 ∈ ft_W) := Or.inr (fun idx h => by
  rw [sw_xZ] at h
  cases h
  exact sw_yZ)
section SPC
variable {n v : Nat} {Z : (Nat → Int) → (Nat → Nat → Int) → Option Int → Prop} {P : pt_P} {st : List Int}
theorem sw_pushZ {pc : Nat} {a b : ai_V} {x : Int} {y : ai_X} (h : pt_Cl (n + 1) 66 zxY 0 Z P) (hn : 4 ≤ n) (hv : v < 4) (hs : st.length < 48) (hck : sw_pZ v pc a b y = true) {r : Nat → Int} {M : Nat → Nat → Int} (h0 : r 0 = 0) (ey : ai_vx r y = x) (hd : r (pu_dZ v) = (st.length : Int)) (ha : ak_atZ (49 + 6 * v) st M)
    (hz : ∀ r2 M2, (r2 (pu_dZ v) = ((x :: st).length : Int) ∧ ak_atZ (49 + 6 * v) (x :: st) M2) → (∀ t, t < 727 → t ≠ pu_dZ v → r2 t = r t) → (∀ z, z ≠ 49 + 6 * v → M2 z = M z) → Z r2 M2 none) : P (pc, 0, 0) (sw_LZ v a b) [.inl y, wa_r (46 + 6 * v)] r M := by
  obtain ⟨hseg, -, -, -, -, -, -, -, hcall, -, -, -, -, hvret⟩ := h
  unfold sw_pZ at hck
  simp only [Bool.and_eq_true] at hck
  obtain ⟨⟨k1, k2⟩, k3⟩ := hck
  have pd : pu_dZ v < 727 ∧ pu_dZ v ≠ 727 := by
    unfold pu_dZ
    omega
  obtain ⟨r6, hr6⟩ : ∃ r6, r6 = pt_up r (pt_wc [wa_r (46 + 6 * v), .inl y] (pu_LZ v)) := ⟨_, rfl⟩
  have v6 : ∀ t, r6 t = if t = 727 then x else r t := fun t => by
    rw [hr6, ← ey, ← pt_xr_ok h0]
    rfl
  refine hcall (pc, 0, 0) _ _ _ _ _ r M 68 0 807 _ _ pu_kZ.2.2.1 k1 k2 (pu_MZ (st := st) hn hv hs) (by
    rw [← hr6]
    exact ⟨by rw [v6, if_neg pd.2]; exact hd, ha⟩) (fun r7 M7 o hq => ?_)
  rw [← hr6] at hq
  obtain ⟨rc, rs⟩ := wa_rm (n := n + 1) pu_kZ.2.2.2
  rw [rc, rs]
  obtain ⟨rfl, ⟨y1, y2⟩, y3, y4⟩ := hq
  have ex : r6 727 = x := by rw [v6, if_pos rfl]
  rw [ex] at y1 y2
  obtain ⟨r8, hr8⟩ : ∃ r8, r8 = pt_mrg 727 r r7 807 none := ⟨_, rfl⟩
  show P (pc + 3, 0, 0) (sw_LZ v a b) [] (pt_mrg 727 r r7 807 none) _
  rw [← hr8]
  have lo8 : ∀ t, t < 727 → r8 t = r7 t := fun t ht => by
    rw [hr8]
    exact wa_mlt ht
  refine hseg _ _ _ _ _ r8 _ _ _ _ _ _ k3 ⟨pt_m0, pt_m0, pt_m0⟩ ⟨fun _ => ?_, trivial⟩
  show P (78, 0, 0) (sw_LZ v a b) [] r8 M7
  exact hvret (78, 0, 0) _ r8 _ rfl sw_kZ.1.1 (by decide +kernel) (by decide +kernel) (hz r8 M7 ⟨(lo8 _ pd.1).trans y1, y2⟩ (fun t a1 b1 => by rw [lo8 t a1, y3 t a1 b1, v6, if_neg (by omega)]) y4)
/-- a number is taken from the stack -/
theorem gd_pullZ {mi pc rt : Nat} {L : List ai_V} {x : Int} {S : List ai_V} (h : pt_Cl (n + 1) mi zxY rt Z P) (hn : 4 ≤ n) (hv : v < 4) (hs : st.length < 48) (hck : gd_qZ mi v pc L S = true) {r : Nat → Int} {M : Nat → Nat → Int} (hd : r (pu_dZ v) = ((x :: st).length : Int)) (ha : ak_atZ (49 + 6 * v) (x :: st) M)
    (hz : ∀ r2, r2 807 = x → (r2 (pu_dZ v) = (st.length : Int) ∧ ak_atZ (49 + 6 * v) st M) → (∀ t, t ≠ pu_dZ v → t ≠ 807 → r2 t = r t) → P (pc + 3, 0, 0) L (wa_i 807 :: S) r2 M) : P (pc, 0, 0) L (wa_r (46 + 6 * v) :: S) r M := by
  obtain ⟨-, -, -, -, -, -, -, -, hcall, -⟩ := h
  unfold gd_qZ at hck
  rw [Bool.and_eq_true] at hck
  obtain ⟨k1, k2⟩ := hck
  have pd : pu_dZ v < 727 ∧ pu_dZ v ≠ 727 := by
    unfold pu_dZ
    omega
  have e6 : pt_up r (pt_wc [wa_r (46 + 6 * v)] (qp_LZ v)) = r := rfl
  refine hcall (pc, 0, 0) _ _ _ _ _ r M 69 1 807 _ _ qp_kZ.2.2.1 k1 k2 (qp_MZ (x := x) (st := st) hn hv hs) (by
    rw [e6]
    exact ⟨hd, ha⟩) (fun r7 M7 o hq => ?_)
  rw [e6] at hq
  obtain ⟨rc, rs⟩ := wa_rm (n := n + 1) qp_kZ.2.2.2
  rw [rc, rs]
  obtain ⟨rfl, ⟨y1, y2⟩, y3, rfl⟩ := hq
  obtain ⟨r8, hr8⟩ : ∃ r8, r8 = pt_mrg 727 r r7 807 (some x) := ⟨_, rfl⟩
  show P (pc + 3, 0, 0) L (wa_i 807 :: S) (pt_mrg 727 r r7 807 (some x)) _
  rw [← hr8]
  have lo8 : ∀ t, t < 727 → r8 t = r7 t := fun t ht => by
    rw [hr8]
    exact wa_mlt ht
  refine hz r8 (by rw [hr8]; exact wa_mz (by omega)) ⟨(lo8 _ pd.1).trans y1, y2⟩ (fun t a1 b1 => ?_)
  by_cases c : t < 727
  · rw [lo8 t c]
    exact y3 t c a1
  · rw [hr8]
    show (if t < 727 then r7 t else if t = 807 then x else r t) = r t
    rw [if_neg c, if_neg b1]
end SPC
theorem sw_32Z {r : Nat → Int} (hE : ai_gE r zxY.1) : -2147483648 ≤ r 807 ∧ r 807 ≤ 2147483647 := by
  have w : (807, ((-2147483648 : Int), (2147483647 : Int))) ∈ zxE.2.1 := by decide +kernel
  exact (hE.2.2.2.1 _ w).2
theorem sw_MZ {n v : Nat} {V : Nat → Int} {c : Int} {st : List Int} (hn : 4 ≤ n) (hv : v < 4) (hs : st.length ≤ 48) (ok : ak_ok1Z c st.length) : pt_Met (n + 1 + 1) 66 zxY (pu_LZ v) (fun r M => (r 727 = c ∧ ∀ k, k < 5 → r (sw_vZ v k) = V k) ∧ r (pu_dZ v) = (st.length : Int) ∧ ak_atZ (49 + 6 * v) st M) (fun r M r2 M2 o => o = none ∧ (r2 (pu_dZ v) = ((ak_stZ V c st).length : Int) ∧ ak_atZ (49 + 6 * v) (ak_stZ V c st) M2) ∧ (∀ t, t < 727 → t ≠ pu_dZ v → r2 t = r t) ∧ ∀ z, z ≠ 49 + 6 * v → M2 z = M z) 0 := by
  refine pt_intro (L0 := sw_LZ v wa_u wa_u) sw_kZ.2.1 (by omega) zxsys (by
    rw [sw_kZ.1.2]
    rfl) (fun P r M h hp => ?_)
  have h' := h
  obtain ⟨hseg, henv, -, -, -, -, -, -, -, hcall0, -⟩ := h'
  refine henv _ _ _ _ _ (fun hE _ => ?_)
  have h0 : r 0 = 0 := hE.1
  obtain ⟨⟨p1, p2⟩, p3, p4⟩ := hp
  obtain ⟨-, -, b0⟩ := gd_i32Z hE
  have pd : pu_dZ v < 727 ∧ pu_dZ v ≠ 727 := by
    unfold pu_dZ
    omega
  have q1 := List.all_eq_true.mp sw_c1Z v (List.mem_range.mpr hv)
  rw [Bool.and_eq_true, Bool.and_eq_true] at q1
  obtain ⟨⟨c1, c2⟩, c3⟩ := q1
  have q2 := List.all_eq_true.mp sw_c2Z v (List.mem_range.mpr hv)
  simp only [Bool.and_eq_true] at q2
  have q3 := List.all_eq_true.mp sw_c3Z v (List.mem_range.mpr hv)
  simp only [Bool.and_eq_true] at q3
  unfold ak_ok1Z at ok
  by_cases a1 : 0 ≤ c
  · have e : ak_stZ V c st = c :: st := if_pos a1
    rw [e] at h
    rw [if_pos (by omega)] at ok
    refine hseg _ _ _ _ _ r M _ _ _ _ _ c1 ⟨pt_m0, pt_m1 ⟨by show (0 : Int) ≤ r 727; omega, by show r 727 ≤ 2147483647; omega⟩, pt_m0⟩ ⟨fun _ => ?_, trivial⟩
    exact sw_pushZ (st := st) (x := c) h hn hv ok c2 h0 (by show r 727 + 0 = c; omega) p3 p4 (fun r2 M2 g1 g2 g3 => ⟨rfl, g1, g2, g3⟩)
  by_cases a2 : -5 ≤ c
  · have e : ak_stZ V c st = V (-1 - c).toNat :: st := (if_neg a1).trans (if_pos a2)
    rw [e] at h
    rw [if_pos a2] at ok
    obtain ⟨k, hk⟩ : ∃ k : Nat, k = (-1 - c).toNat := ⟨_, rfl⟩
    rw [← hk] at h
    have k5 : k < 5 := by omega
    have ck : c = -1 - (k : Int) := by omega
    have g := List.all_eq_true.mp c3 k (List.mem_range.mpr k5)
    rw [Bool.and_eq_true] at g
    have en : Int.negSucc k = -1 - (k : Int) := by omega
    refine hseg _ _ _ _ _ r M _ _ _ _ _ g.1 ⟨pt_m0, pt_m1 ⟨by show Int.negSucc k ≤ r 727; omega, by show r 727 ≤ Int.negSucc k; omega⟩, pt_m0⟩ ⟨fun _ => ?_, trivial⟩
    exact sw_pushZ (st := st) (x := V k) h hn hv ok g.2 h0 (by show r (sw_vZ v k) + 0 = V k; rw [Int.add_zero]; exact p2 k k5) p3 p4 (fun r2 M2 g1 g2 g3 => ⟨rfl, g1, g2, g3⟩)
  rw [if_neg a2] at ok
  by_cases a3 : c = -12
  · rw [if_pos a3] at ok
    obtain ⟨⟨d1, d2⟩, ⟨d3, d4, d5⟩, d6, d7⟩ := q2
    rcases st with _ | ⟨x, st⟩
    · exact absurd ok (Nat.not_succ_le_zero 0)
    have e : ak_stZ V c (x :: st) = (if x = 0 then 1 else 0) :: st := (if_neg a1).trans ((if_neg a2).trans (if_pos a3))
    rw [e] at h
    have ls : st.length < 48 := by
      rw [List.length_cons] at hs
      omega
    refine hseg _ _ _ _ _ r M _ _ _ _ _ d1 ⟨pt_m0, pt_m1 ⟨by show (-12 : Int) ≤ r 727; omega, by show r 727 ≤ -12; omega⟩, pt_m0⟩ ⟨fun _ => ?_, trivial⟩
    refine gd_pullZ (x := x) (st := st) h hn hv ls d2 p3 p4 (fun r2 s1 s2 s3 => ?_)
    refine henv _ _ _ _ _ (fun hE2 _ => ?_)
    have b2 := sw_32Z hE2
    have f2 : ∀ t, t < 727 → t ≠ pu_dZ v → r2 t = r t := fun t a b => s3 t b (by omega)
    have h20 : r2 0 = 0 := hE2.1
    rcases (by omega : x = 0 ∨ 1 ≤ x ∨ x ≤ -1) with z | z | z
    · rw [if_pos z] at h
      refine hseg _ _ _ _ _ r2 M _ _ _ _ _ d3 ⟨pt_m0, pt_m1 ⟨by show (0 : Int) ≤ r2 807; omega, by show r2 807 ≤ 0; omega⟩, pt_m0⟩ ⟨fun _ => ?_, trivial⟩
      exact sw_pushZ (y := (0, 1)) (st := st) (x := 1) h hn hv ls d7 h20 (by show r2 0 + 1 = 1; omega) s2.1 s2.2 (fun r3 M3 g1 g2 g3 => ⟨rfl, g1, fun t a b => (g2 t a b).trans (f2 t a b), g3⟩)
    · rw [if_neg (by omega)] at h
      refine hseg _ _ _ _ _ r2 M _ _ _ _ _ d4 ⟨pt_m0, pt_m1 ⟨by show (1 : Int) ≤ r2 807; omega, by show r2 807 ≤ 2147483647; omega⟩, pt_m0⟩ ⟨fun _ => ?_, trivial⟩
      exact sw_pushZ (y := (0, 0)) (st := st) (x := 0) h hn hv ls d6 h20 (by show r2 0 + 0 = 0; omega) s2.1 s2.2 (fun r3 M3 g1 g2 g3 => ⟨rfl, g1, fun t a b => (g2 t a b).trans (f2 t a b), g3⟩)
    · rw [if_neg (by omega)] at h
      refine hseg _ _ _ _ _ r2 M _ _ _ _ _ d5 ⟨pt_m0, pt_m1 ⟨by show (-2147483648 : Int) ≤ r2 807; omega, by show r2 807 ≤ -1; omega⟩, pt_m0⟩ ⟨fun _ => ?_, trivial⟩
      exact sw_pushZ (y := (0, 0)) (st := st) (x := 0) h hn hv ls d6 h20 (by show r2 0 + 0 = 0; omega) s2.1 s2.2 (fun r3 M3 g1 g2 g3 => ⟨rfl, g1, fun t a b => (g2 t a b).trans (f2 t a b), g3⟩)
  · rw [if_neg a3] at ok
    obtain ⟨o1, o2⟩ := ok
    obtain ⟨⟨⟨d1, d1'⟩, d2, d3⟩, ⟨d4, d5⟩, ⟨d6, d7⟩, d8⟩ := q3
    rcases st with _ | ⟨y, _ | ⟨x, st⟩⟩
    · exact absurd o2 (Nat.not_succ_le_zero 1)
    · exact absurd o2 (by show ¬ 2 ≤ 1; omega)
    have e : ak_stZ V c (y :: x :: st) = ak_jZ c x y :: st := (if_neg a1).trans ((if_neg a2).trans (if_neg a3))
    rw [e] at h
    have l1 : (x :: st).length < 48 := by
      rw [List.length_cons] at hs
      omega
    have l2 : st.length < 48 := by
      rw [List.length_cons] at l1
      omega
    have cr : (-14 ≤ c ∧ c ≤ -13) ∨ (-11 ≤ c ∧ c ≤ -6) := by
      simp only [ak_opsZ, List.mem_cons, List.not_mem_nil, or_false] at o1
      omega
    have next : P (59, 0, 0) (sw_LZ v wa_u wa_u) [wa_r (46 + 6 * v)] r M := by
      refine gd_pullZ (x := y) (st := x :: st) h hn hv l1 d2 p3 p4 (fun r2 s1 s2 s3 => ?_)
      refine hseg _ _ _ _ _ r2 M _ _ _ _ _ d3 ⟨pt_m0, pt_m0, pt_m0⟩ ⟨fun _ => ?_, trivial⟩
      obtain ⟨r3, hr3⟩ : ∃ r3, r3 = pt_up r2 [(728, gz_p 807)] := ⟨_, rfl⟩
      show P (64, 0, 0) (sw_LZ v (wa_i 728) wa_u) [wa_r (46 + 6 * v)] (pt_up r2 [(728, gz_p 807)]) M
      rw [← hr3]
      have v3 : ∀ t, r3 t = if t = 728 then r2 807 else r2 t := fun t => by
        rw [hr3]
        rfl
      refine gd_pullZ (x := x) (st := st) h hn hv l2 d4 (by rw [v3, if_neg (by omega)]; exact s2.1) s2.2 (fun r4 u1 u2 u3 => ?_)
      refine hseg _ _ _ _ _ r4 M _ _ _ _ _ d5 ⟨pt_m0, pt_m0, pt_m0⟩ ⟨fun _ => ?_, trivial⟩
      obtain ⟨r5, hr5⟩ : ∃ r5, r5 = pt_up r4 [(729, gz_p 807)] := ⟨_, rfl⟩
      show P (72, 0, 0) (sw_LZ v (wa_i 728) (wa_i 729)) [wa_i 728, wa_i 729, wa_i 727, wa_r (46 + 6 * v)] (pt_up r4 [(729, gz_p 807)]) M
      rw [← hr5]
      have v5 : ∀ t, r5 t = if t = 729 then r4 807 else r4 t := fun t => by
        rw [hr5]
        rfl
      have w0 : r5 727 = c := by rw [v5, if_neg (by omega), u3 _ (by omega) (by omega), v3, if_neg (by omega), s3 _ (by omega) (by omega), p1]
      have w1 : r5 728 = y := by rw [v5, if_neg (by omega), u3 _ (by omega) (by omega), v3, if_pos rfl, s1]
      have w2 : r5 729 = x := by rw [v5, if_pos rfl, u1]
      have wd : r5 (pu_dZ v) = (st.length : Int) := by
        rw [v5, if_neg (by omega)]
        exact u2.1
      have wf : ∀ t, t < 727 → t ≠ pu_dZ v → r5 t = r t := fun t a b => by rw [v5, if_neg (by omega), u3 t b (by omega), v3, if_neg (by omega), s3 t b (by omega)]
      refine henv _ _ _ _ _ (fun hE5 _ => ?_)
      have h50 : r5 0 = 0 := hE5.1
      obtain ⟨r6, hr6⟩ : ∃ r6, r6 = pt_up r5 (pt_wc [wa_i 727, wa_i 729, wa_i 728] (ak_tLZ 727)) := ⟨_, rfl⟩
      have v6 : ∀ t, r6 t = if t = 727 then r5 727 else if t = 727 + 1 then r5 729 else if t = 727 + 2 then r5 728 else r5 t := fun t => by
        rw [hr6]
        rfl
      refine hcall0 (72, 0, 0) _ _ _ _ _ r5 M 67 1 807 _ _ jo_kZ.2.1 d6 d7 sw_sZ (jo_MZ (n := n) hn) (by
        rw [← hr6]
        show r6 727 ∈ ak_opsZ
        rw [v6, if_pos rfl, w0]
        exact o1) (fun r7 M7 o hq => ?_)
      rw [← hr6] at hq
      obtain ⟨rc, rs⟩ := wa_rm (n := n + 1) jo_kZ.2.2
      rw [rc, rs]
      obtain ⟨rfl, y2, rfl⟩ := hq
      have ev : ak_jZ (r6 727) (r6 728) (r6 729) = ak_jZ c x y := by
        rw [v6, if_pos rfl, v6, if_neg (by omega), if_pos (by omega), v6, if_neg (by omega), if_neg (by omega), if_pos (by omega), w0, w1, w2]
      rw [ev]
      obtain ⟨r8, hr8⟩ : ∃ r8, r8 = pt_mrg 727 r5 r7 807 (some (ak_jZ c x y)) := ⟨_, rfl⟩
      show P (75, 0, 0) (sw_LZ v (wa_i 728) (wa_i 729)) [wa_i 807, wa_r (46 + 6 * v)] (pt_mrg 727 r5 r7 807 (some (ak_jZ c x y))) _
      rw [← hr8]
      have lo8 : ∀ t, t < 727 → r8 t = r5 t := fun t ht => by
        rw [hr8, wa_mlt ht, y2 t ht, v6, if_neg (by omega), if_neg (by omega), if_neg (by omega)]
      refine henv _ _ _ _ _ (fun hE8 _ => ?_)
      exact sw_pushZ (y := (807, 0)) (st := st) (x := ak_jZ c x y) h hn hv l2 d8 hE8.1 (by show r8 807 + 0 = _; rw [Int.add_zero, hr8]; exact wa_mz (by omega)) ((lo8 _ pd.1).trans wd) u2.2 (fun r9 M9 g1 g2 g3 => ⟨rfl, g1, fun t a b => (g2 t a b).trans ((lo8 t a).trans (wf t a b)), g3⟩)
    rcases cr with z | z
    · refine hseg _ _ _ _ _ r M _ _ _ _ _ d1 ⟨pt_m0, pt_m1 ⟨by show (-14 : Int) ≤ r 727; omega, by show r 727 ≤ -13; omega⟩, pt_m0⟩ ⟨fun _ => ?_, trivial⟩
      exact next
    · refine hseg _ _ _ _ _ r M _ _ _ _ _ d1' ⟨pt_m0, pt_m1 ⟨by show (-11 : Int) ≤ r 727; omega, by show r 727 ≤ -6; omega⟩, pt_m0⟩ ⟨fun _ => ?_, trivial⟩
      exact next
