/-! ASKED: all codes of an offer -/
noncomputable def av_runZ (V : Nat → Int) : List Int → Int → List Int → Option Int
  | [], s, _ => some s
  | c :: l, s, st => if c = -16 then (match st with
    | x :: t => if x = 0 then none else av_runZ V l s t
    | [] => none) else if c = -15 then (match st with
    | x :: t => av_runZ V l (ai_op 0 s x) t
    | [] => none) else av_runZ V l s (ak_stZ V c st)
noncomputable def av_dnZ (c : Int) (d : Nat) : Nat := if -5 ≤ c then d + 1 else if c = -12 then d else d - 1
noncomputable def av_okZ : List Int → Nat → Prop
  | [], _ => True
  | c :: l, d => if c = -16 ∨ c = -15 then 1 ≤ d ∧ av_okZ l (d - 1) else ak_ok1Z c d ∧ av_okZ l (av_dnZ c d)
theorem av_ok_cZ {c : Int} {l : List Int} {d : Nat} : av_okZ (c :: l) d = if c = -16 ∨ c = -15 then 1 ≤ d ∧ av_okZ l (d - 1) else ak_ok1Z c d ∧ av_okZ l (av_dnZ c d) := rfl
noncomputable def av_capZ (s : Int) : Int := ai_op 11 0 (ai_op 12 9999 s)
noncomputable def av_askZ (V : Nat → Int) (l : List Int) : Int := if l = [] then V 3 else match av_runZ V l 0 [] with
  | none => -1
  | some s => av_capZ s
theorem av_lenZ {V : Nat → Int} {c : Int} {st : List Int} (ok : ak_ok1Z c st.length) : (ak_stZ V c st).length = av_dnZ c st.length := by
  unfold ak_ok1Z at ok
  unfold ak_stZ av_dnZ
  by_cases a1 : 0 ≤ c
  · rw [if_pos a1, if_pos (by omega)]
    rfl
  · rw [if_neg a1]
    by_cases a2 : -5 ≤ c
    · rw [if_pos a2, if_pos a2]
      rfl
    · rw [if_neg a2, if_neg a2]
      rw [if_neg a2] at ok
      by_cases a3 : c = -12
      · rw [if_pos a3, if_pos a3]
        rw [if_pos a3] at ok
        rcases st with _ | ⟨x, st⟩
        · exact absurd ok (Nat.not_succ_le_zero 0)
        · rfl
      · rw [if_neg a3, if_neg a3]
        rw [if_neg a3] at ok
        rcases st with _ | ⟨y, _ | ⟨x, st⟩⟩
        · exact absurd ok.2 (Nat.not_succ_le_zero 1)
        · exact absurd ok.2 (by show ¬ 2 ≤ 1; omega)
        · rfl
theorem av_dn_leZ {c : Int} {d : Nat} (h : d ≤ 48) (ok : ak_ok1Z c d) : av_dnZ c d ≤ 48 := by
  unfold ak_ok1Z at ok
  unfold av_dnZ
  by_cases a2 : -5 ≤ c
  · rw [if_pos a2] at ok ⊢
    exact ok
  · rw [if_neg a2]
    split
    · exact h
    · omega
/-- a clause's codes, then the rest -/
theorem av_ok_dpZ {rest : List Int} : ∀ {m : List Int} {d d1 : Nat}, (∀ c ∈ m, -15 < c) → ps_dp 31 m d = some d1 → av_okZ rest d1 → av_okZ (m ++ rest) d
  | [], d, d1, _, h, g => by
    have h : some d = some d1 := h
    cases h
    exact g
  | c :: m, d, d1, hm, h, g => by
    have hc := hm c List.mem_cons_self
    have hm' : ∀ z ∈ m, -15 < z := fun z hz => hm z (List.mem_cons_of_mem _ hz)
    rw [List.cons_append, av_ok_cZ, if_neg (by omega)]
    rw [ps_dp_c] at h
    unfold ak_ok1Z av_dnZ
    by_cases a : -5 ≤ c
    · rw [if_pos a] at h
      rw [if_pos a, if_pos a]
      by_cases b : d < 31
      · rw [if_pos b] at h
        exact ⟨by omega, av_ok_dpZ hm' h g⟩
      · rw [if_neg b] at h
        cases h
    · rw [if_neg a] at h
      rw [if_neg a, if_neg a]
      by_cases b : c = -12
      · rw [if_pos b] at h
        rw [if_pos b, if_pos b]
        by_cases x : 1 ≤ d
        · rw [if_pos x] at h
          exact ⟨x, av_ok_dpZ hm' h g⟩
        · rw [if_neg x] at h
          cases h
      · rw [if_neg b] at h
        rw [if_neg b, if_neg b]
        by_cases x : -14 ≤ c
        · rw [if_pos x] at h
          by_cases y : 2 ≤ d
          · rw [if_pos y] at h
            refine ⟨⟨?_, y⟩, av_ok_dpZ hm' h g⟩
            simp only [ak_opsZ, List.mem_cons, List.not_mem_nil, or_false]
            omega
          · rw [if_neg y] at h
            cases h
        · rw [if_neg x] at h
          cases h
theorem av_gcZ {l : List Int} (h : ps_gc l) : av_okZ l 0 := by
  obtain ⟨cls, rfl, h⟩ := h
  induction cls with
  | nil => trivial
  | cons q cls ih =>
    obtain ⟨h1, h2, h3⟩ := h q List.mem_cons_self
    have g := ih (fun z hz => h z (List.mem_cons_of_mem _ hz))
    show av_okZ ((q.1 ++ [q.2]) ++ ps_jn cls) 0
    rw [List.append_assoc]
    refine av_ok_dpZ h2 h3 ?_
    show av_okZ (q.2 :: ps_jn cls) 1
    rw [av_ok_cZ, if_pos (by omega)]
    exact ⟨Nat.le_refl 1, g⟩
/-! ASKED (the class): ask -/
noncomputable def aw_LZ (v : Nat) (a b c : ai_V) : List ai_V := [wa_r (46 + 6 * v), wa_i 727, a, b, c]
noncomputable def aw_hZ (v : Nat) : List ai_V := aw_LZ v (wa_i 728) (wa_i 729) wa_u
noncomputable def aw_3Z (v : Nat) : List ai_V := aw_LZ v (wa_i 728) (wa_i 729) (wa_i 730)
noncomputable def aw_oZ (v : Nat) : Nat := 11 + 8 * v
noncomputable abbrev aw_rZ (st : List Nat) (sk : Bool) (pc : Nat) (L S : List ai_V) (cp : List (Nat × Int × Int)) (le : List (ai_X × ai_X)) (pc2 : Nat) (L2 S2 : List ai_V) (W : List (Nat × pt_X)) : Bool := pt_row zxY 65 st sk (pc, 0, 0) L S [] cp le [48, 54, 60, 66] [((pc2, 0, 0), (L2, S2), W, [])]
theorem aw_c1Z : (List.range 4).all (fun v => (aw_rZ [13, 30] true 0 (aw_LZ v wa_u wa_u wa_u) [] [(aw_oZ v, (0, 0))] [] 13 (aw_LZ v wa_u wa_u wa_u) [wa_i (sw_vZ v 3)] [] && aw_rZ [13, 30] true 0 (aw_LZ v wa_u wa_u wa_u) [] [(aw_oZ v, (1, 200))] [] 30 (aw_hZ v) [] [(pu_dZ v, gz_k 0), (sw_vZ v 0, gz_p 727), (728, gz_k 0), (729, gz_k 0)]) &&
    ((aw_rZ [43, 100] true 30 (aw_hZ v) [] [(729, (0, 199))] [((729, 1), (aw_oZ v, 0))] 43 (aw_hZ v) [wa_r (47 + 6 * v), wa_i 729] [] && aw_rZ [43, 100] true 30 (aw_hZ v) [] [(729, (0, 200))] [((aw_oZ v, 0), (729, 0))] 100 (aw_hZ v) [] []) && (aw_rZ [52, 100] false 44 (aw_hZ v) [wa_k 200, wa_i 729] [(729, (0, 199))] [] 52 (aw_hZ v) [wa_i 729, wa_r (47 + 6 * v)] [] && aw_rZ [111] false 100 (aw_hZ v) [] [] [] 111 (aw_hZ v) [wa_i 807] [(807, [(1, 0, 0), (1, 0, 9999), (0, 728, 0), (2, 12, 0), (2, 11, 0)])]))) = true := by decide +kernel
theorem aw_c2Z : (List.range 4).all (fun v => (aw_rZ [63, 80, 91] false 53 (aw_hZ v) [wa_i 807] [(807, (-16, -16))] [] 63 (aw_3Z v) [wa_r (46 + 6 * v)] [(730, gz_p 807)] && (aw_rZ [63, 80, 91] false 53 (aw_hZ v) [wa_i 807] [(807, (-15, -15))] [] 80 (aw_3Z v) [wa_r (46 + 6 * v), wa_i 728] [(730, gz_p 807)] && aw_rZ [63, 80, 91] false 53 (aw_hZ v) [wa_i 807] [(807, (-14, 2147483647))] [] 91 (aw_3Z v) [wa_i 730, wa_r (46 + 6 * v)] [(730, gz_p 807)])) &&
    ((aw_rZ [30, 70] false 66 (aw_3Z v) [wa_i 807] [(807, (0, 0)), (729, (0, 199))] [] 70 (aw_3Z v) [.inl (0, -1)] [] && (aw_rZ [30, 70] false 66 (aw_3Z v) [wa_i 807] [(807, ak_pZ), (729, (0, 199))] [] 30 (aw_hZ v) [] [(729, gz_d 729 1)] && aw_rZ [30, 70] false 66 (aw_3Z v) [wa_i 807] [(807, ak_nZ), (729, (0, 199))] [] 30 (aw_hZ v) [] [(729, gz_d 729 1)])) &&
    (aw_rZ [30] false 83 (aw_3Z v) [wa_i 807, wa_i 728] [(729, (0, 199))] [] 30 (aw_hZ v) [] [(728, [(0, 728, 0), (0, 807, 0), (2, 0, 0)]), (729, gz_d 729 1)] && aw_rZ [30] false 94 (aw_3Z v) [] [(729, (0, 199))] [] 30 (aw_hZ v) [] [(729, gz_d 729 1)]))) = true := by decide +kernel
theorem aw_kZ : (List.range 4).all (fun v => (pt_nck zxY 65 43 (47 + 6 * v) 200 && pt_lck zxY 65 52 1 (47 + 6 * v) 200 0 807 (aw_hZ v) []) && ((gd_qZ 65 v 63 (aw_3Z v) [] && gd_qZ 65 v 80 (aw_3Z v) [wa_i 728]) && (cy_vk 65 91 66 zxY.2.1 [wa_i 730, wa_r (46 + 6 * v)] [wa_r (46 + 6 * v), wa_i 730] [] && pt_cck zxY 65 66 (91, 0, 0) 0 807 (aw_3Z v) [] [wa_r (46 + 6 * v), wa_i 730] (pu_LZ v)))) = true ∧ ((pt_is 5 65 13 = true ∧ pt_is 5 65 70 = true ∧ pt_is 5 65 111 = true) ∧ (ct_mt 65).2.2.1 = 5) ∧ lh_plain 65 = true ∧ ct_bud 65 = (0, 0) := by decide +kernel
section AWS
variable {n v : Nat} {Z : (Nat → Int) → (Nat → Nat → Int) → Option Int → Prop} {P : pt_P} {V : Nat → Int} {l : List Int} {r0 : Nat → Int} {M0 : Nat → Nat → Int}
theorem aw_loopZ (h : pt_Cl (n + 1 + 1) 65 zxY 1 Z P) (hlen : ∀ (k : Nat × Nat × Nat) (L S : List ai_V) (r : Nat → Int) (M : Nat → Nat → Int) (q nq : Nat), pt_nck zxY 65 k.1 q nq = true → P (k.1 + 1, k.2) L (.inl (0, .ofNat nq) :: S) r M → P k L (.inr (.inr (some (some q))) :: S) r M) (hn : 4 ≤ n) (hv : v < 4) (hl : l.length ≤ 200) (ho : r0 (aw_oZ v) = (l.length : Int)) (hM : ∀ j, j < l.length → M0 (47 + 6 * v) j = l.getD j 0) (hV : ∀ k, k < 5 → r0 (sw_vZ v k) = V k)
    (hz : ∀ r2 M2 a, a = (match av_runZ V l 0 [] with
      | none => -1
      | some s => av_capZ s) → (∀ t, t < 727 → t ≠ pu_dZ v → r2 t = r0 t) → (∀ z, z ≠ 49 + 6 * v → M2 z = M0 z) → Z r2 M2 (some a)) :
    ∀ (rest pre : List Int) (s : Int) (st : List Int) (r : Nat → Int) (M : Nat → Nat → Int), pre ++ rest = l → av_runZ V rest s st = av_runZ V l 0 [] → av_okZ rest st.length → st.length ≤ 48 → (r 728 = s ∧ r 729 = (pre.length : Int)) → (r (pu_dZ v) = (st.length : Int) ∧ ak_atZ (49 + 6 * v) st M) → (∀ t, t < 727 → t ≠ pu_dZ v → r t = r0 t) → (∀ z, z ≠ 49 + 6 * v → M z = M0 z) → P (30, 0, 0) (aw_hZ v) [] r M := by
  have h' := h
  obtain ⟨hseg, henv, -, -, hld, -, -, -, hcall, -, hret, -⟩ := h'
  have q1 := List.all_eq_true.mp aw_c1Z v (List.mem_range.mpr hv)
  simp only [Bool.and_eq_true] at q1
  obtain ⟨-, ⟨c3, c4⟩, c5, c6⟩ := q1
  have q2 := List.all_eq_true.mp aw_c2Z v (List.mem_range.mpr hv)
  simp only [Bool.and_eq_true] at q2
  obtain ⟨⟨d1, d2, d3⟩, ⟨d4, d5, d6⟩, d7, d8⟩ := q2
  have qk := List.all_eq_true.mp aw_kZ.1 v (List.mem_range.mpr hv)
  rw [Bool.and_eq_true, Bool.and_eq_true, Bool.and_eq_true, Bool.and_eq_true] at qk
  obtain ⟨⟨k1, k2⟩, ⟨k3, k4⟩, k5⟩ := qk
  rw [Bool.and_eq_true] at k5
  have nn : (pu_dZ v < 727 ∧ aw_oZ v < 727) ∧ (aw_oZ v ≠ pu_dZ v ∧ ∀ k, k < 5 → sw_vZ v k < 727 ∧ sw_vZ v k ≠ pu_dZ v) := by
    unfold pu_dZ aw_oZ
    refine ⟨⟨by omega, by omega⟩, by omega, fun k hk => ?_⟩
    unfold sw_vZ
    omega
  obtain ⟨⟨np, no⟩, nop, nv⟩ := nn
  intro rest
  induction rest with
  | nil =>
    intro pre s st r M hp hr _ _ he hs fr fM
    rw [List.append_nil] at hp
    subst hp
    have eo : r (aw_oZ v) = (pre.length : Int) := (fr _ no nop).trans ho
    refine hseg _ _ _ _ _ r M _ _ _ _ _ c4 ⟨pt_m0, pt_m1 ⟨by show (0 : Int) ≤ r 729; omega, by show r 729 ≤ 200; omega⟩, pt_m1 (by show r (aw_oZ v) + 0 ≤ r 729 + 0; omega)⟩ ⟨fun _ => ?_, trivial⟩
    refine hseg _ _ _ _ _ r M _ _ _ _ _ c6 ⟨pt_m0, pt_m0, pt_m0⟩ ⟨fun _ => ?_, trivial⟩
    obtain ⟨r2, hr2⟩ : ∃ r2, r2 = pt_up r [(807, [(1, 0, 0), (1, 0, 9999), (0, 728, 0), (2, 12, 0), (2, 11, 0)])] := ⟨_, rfl⟩
    show P (111, 0, 0) (aw_hZ v) [.inl (807, 0)] (pt_up r [(807, [(1, 0, 0), (1, 0, 9999), (0, 728, 0), (2, 12, 0), (2, 11, 0)])]) M
    rw [← hr2]
    have v2 : ∀ t, r2 t = if t = 807 then av_capZ (r 728) else r t := fun t => by
      rw [hr2]
      rfl
    refine hret (111, 0, 0) _ (807, 0) r2 M rfl aw_kZ.2.1.1.2.2 (by decide +kernel) (by decide +kernel) ?_
    refine hz r2 M _ ?_ (fun t a b => by rw [v2, if_neg (by omega)]; exact fr t a b) fM
    rw [← hr]
    show r2 807 + 0 = av_capZ s
    rw [Int.add_zero, v2, if_pos rfl, he.1]
  | cons c rest ih =>
    intro pre s st r M hp hr ok h48 he hs fr fM
    have ll : pre.length < l.length := by
      rw [← hp, List.length_append, List.length_cons]
      omega
    have lc : l.getD pre.length 0 = c := by
      rw [← hp]
      have := ps_gr (l := pre) (m := c :: rest) (x := 0) (d := (0 : Int))
      rw [Nat.add_zero] at this
      exact this
    have hp2 : (pre ++ [c]) ++ rest = l := by
      rw [List.append_assoc]
      exact hp
    have lp : (pre ++ [c]).length = pre.length + 1 := by
      rw [List.length_append]
      rfl
    have eo : r (aw_oZ v) = (l.length : Int) := (fr _ no nop).trans ho
    have b2 : ∀ r2 : Nat → Int, r2 729 = (pre.length : Int) → (0 : Int) ≤ r2 729 ∧ r2 729 ≤ 199 := fun r2 e => by omega
    refine hseg _ _ _ _ _ r M _ _ _ _ _ c3 ⟨pt_m0, pt_m1 (b2 r he.2), pt_m1 (by show r 729 + 1 ≤ r (aw_oZ v) + 0; omega)⟩ ⟨fun _ => ?_, trivial⟩
    refine hlen (43, 0, 0) _ [wa_i 729] r _ (47 + 6 * v) 200 k1 ?_
    refine hseg _ _ _ _ _ r M _ _ _ _ _ c5 ⟨pt_m0, pt_m1 (b2 r he.2), pt_m0⟩ ⟨fun _ => ?_, trivial⟩
    refine hld (52, 0, 0) _ [] r M (47 + 6 * v) 200 807 pre.length (729, 0) k2 (by omega) (by show r 729 + 0 = _; omega) ?_
    have ec : M (47 + 6 * v) pre.length = c := by rw [fM _ (by omega), hM _ ll, lc]
    rw [ec]
    obtain ⟨r1, hr1⟩ : ∃ r1, r1 = pt_set r 807 c := ⟨_, rfl⟩
    show P (53, 0, 0) (aw_hZ v) [wa_i 807] (pt_set r 807 c) M
    rw [← hr1]
    have n1 : ∀ t, t ≠ 807 → r1 t = r t := fun t x => by
      rw [hr1]
      exact if_neg x
    have s1 : r1 807 = c := by
      rw [hr1]
      exact gz_sset
    refine henv _ _ _ _ _ (fun hE1 _ => ?_)
    have b32 := sw_32Z hE1
    obtain ⟨r2, hr2⟩ : ∃ r2, r2 = pt_up r1 [(730, gz_p 807)] := ⟨_, rfl⟩
    have v2 : ∀ t, r2 t = if t = 730 then c else r1 t := fun t => by
      rw [hr2, ← s1]
      rfl
    have n2 : ∀ t, t ≠ 730 → t ≠ 807 → r2 t = r t := fun t a b => by rw [v2, if_neg a, n1 t b]
    have hs2 : r2 (pu_dZ v) = (st.length : Int) := (n2 _ (by omega) (by omega)).trans hs.1
    rw [av_ok_cZ] at ok
    by_cases w : c = -16
    · rw [if_pos (Or.inl w)] at ok
      rcases st with _ | ⟨x, st⟩
      · exact absurd ok.1 (Nat.not_succ_le_zero 0)
      have ls : st.length < 48 := by
        rw [List.length_cons] at h48
        omega
      have hr' : (if x = 0 then none else av_runZ V rest s st) = av_runZ V l 0 [] := by
        rw [← hr]
        show _ = if c = -16 then (if x = 0 then none else av_runZ V rest s st) else _
        rw [if_pos w]
      refine hseg _ _ _ _ _ r1 M _ _ _ _ _ d1 ⟨pt_m0, pt_m1 ⟨by show (-16 : Int) ≤ r1 807; omega, by show r1 807 ≤ -16; omega⟩, pt_m0⟩ ⟨fun _ => ?_, trivial⟩
      show P (63, 0, 0) (aw_3Z v) [wa_r (46 + 6 * v)] (pt_up r1 [(730, gz_p 807)]) M
      rw [← hr2]
      refine gd_pullZ (n := n + 1) (x := x) (st := st) h (by omega) hv ls k3 hs2 hs.2 (fun r3 t1 t2 t3 => ?_)
      refine henv _ _ _ _ _ (fun hE3 _ => ?_)
      have b3 := sw_32Z hE3
      have e3 : r3 729 = (pre.length : Int) ∧ r3 728 = s := ⟨by rw [t3 _ (by omega) (by omega), n2 _ (by omega) (by omega)]; exact he.2, by rw [t3 _ (by omega) (by omega), n2 _ (by omega) (by omega)]; exact he.1⟩
      have f3 : ∀ t, t < 727 → t ≠ pu_dZ v → r3 t = r0 t := fun t a b => by
        rw [t3 t b (by omega), n2 t (by omega) (by omega)]
        exact fr t a b
      have go : ∀ r4, r4 = pt_up r3 [(729, gz_d 729 1)] → x ≠ 0 → P (30, 0, 0) (aw_hZ v) [] r4 M := fun r4 hr4 hx => by
        have v4 : ∀ t, r4 t = if t = 729 then r3 729 + 1 else r3 t := fun t => by
          rw [hr4]
          rfl
        rw [if_neg hx] at hr'
        refine ih (pre ++ [c]) s st r4 M hp2 hr' ok.2 (by omega) ⟨by rw [v4, if_neg (by omega)]; exact e3.2, by rw [v4, if_pos rfl, lp, e3.1]; omega⟩ ⟨by rw [v4, if_neg (by omega)]; exact t2.1, t2.2⟩ (fun t a b => by rw [v4, if_neg (by omega)]; exact f3 t a b) fM
      rcases (by omega : x = 0 ∨ 1 ≤ x ∨ x ≤ -1) with z | z | z
      · refine hseg _ _ _ _ _ r3 M _ _ _ _ _ d4 ⟨pt_m0, pt_m2 ⟨by show (0 : Int) ≤ r3 807; omega, by show r3 807 ≤ 0; omega⟩ (b2 r3 e3.1), pt_m0⟩ ⟨fun _ => ?_, trivial⟩
        refine hret (70, 0, 0) _ (0, -1) r3 M rfl aw_kZ.2.1.1.2.1 (by decide +kernel) (by decide +kernel) (hz r3 M _ ?_ f3 fM)
        rw [← hr', if_pos z]
        show r3 0 + -1 = -1
        have := hE3.1
        omega
      · refine hseg _ _ _ _ _ r3 M _ _ _ _ _ d5 ⟨pt_m0, pt_m2 ⟨by show (1 : Int) ≤ r3 807; omega, by show r3 807 ≤ 2147483647; omega⟩ (b2 r3 e3.1), pt_m0⟩ ⟨fun _ => ?_, trivial⟩
        exact go _ rfl (by omega)
      · refine hseg _ _ _ _ _ r3 M _ _ _ _ _ d6 ⟨pt_m0, pt_m2 ⟨by show (-2147483648 : Int) ≤ r3 807; omega, by show r3 807 ≤ -1; omega⟩ (b2 r3 e3.1), pt_m0⟩ ⟨fun _ => ?_, trivial⟩
        exact go _ rfl (by omega)
    by_cases w2 : c = -15
    · rw [if_pos (Or.inr w2)] at ok
      rcases st with _ | ⟨x, st⟩
      · exact absurd ok.1 (Nat.not_succ_le_zero 0)
      have ls : st.length < 48 := by
        rw [List.length_cons] at h48
        omega
      have hr' : av_runZ V rest (ai_op 0 s x) st = av_runZ V l 0 [] := by
        rw [← hr]
        show _ = if c = -16 then (if x = 0 then none else av_runZ V rest s st) else if c = -15 then av_runZ V rest (ai_op 0 s x) st else _
        rw [if_neg w, if_pos w2]
      refine hseg _ _ _ _ _ r1 M _ _ _ _ _ d2 ⟨pt_m0, pt_m1 ⟨by show (-15 : Int) ≤ r1 807; omega, by show r1 807 ≤ -15; omega⟩, pt_m0⟩ ⟨fun _ => ?_, trivial⟩
      show P (80, 0, 0) (aw_3Z v) (wa_r (46 + 6 * v) :: [wa_i 728]) (pt_up r1 [(730, gz_p 807)]) M
      rw [← hr2]
      refine gd_pullZ (n := n + 1) (x := x) (st := st) h (by omega) hv ls k4 hs2 hs.2 (fun r3 t1 t2 t3 => ?_)
      have e3 : r3 729 = (pre.length : Int) ∧ r3 728 = s := ⟨by rw [t3 _ (by omega) (by omega), n2 _ (by omega) (by omega)]; exact he.2, by rw [t3 _ (by omega) (by omega), n2 _ (by omega) (by omega)]; exact he.1⟩
      refine hseg _ _ _ _ _ r3 M _ _ _ _ _ d7 ⟨pt_m0, pt_m1 (b2 r3 e3.1), pt_m0⟩ ⟨fun _ => ?_, trivial⟩
      obtain ⟨r4, hr4⟩ : ∃ r4, r4 = pt_up r3 [(728, [(0, 728, 0), (0, 807, 0), (2, 0, 0)]), (729, gz_d 729 1)] := ⟨_, rfl⟩
      show P (30, 0, 0) (aw_hZ v) [] (pt_up r3 [(728, [(0, 728, 0), (0, 807, 0), (2, 0, 0)]), (729, gz_d 729 1)]) M
      rw [← hr4]
      have v4 : ∀ t, r4 t = if t = 728 then ai_op 0 (r3 728) (r3 807) else if t = 729 then r3 729 + 1 else r3 t := fun t => by
        rw [hr4]
        rfl
      refine ih (pre ++ [c]) (ai_op 0 s x) st r4 M hp2 hr' ok.2 (by omega) ⟨by rw [v4, if_pos rfl, e3.2, t1], by rw [v4, if_neg (by omega), if_pos rfl, lp, e3.1]; omega⟩ ⟨by rw [v4, if_neg (by omega), if_neg (by omega)]; exact t2.1, t2.2⟩ (fun t a b => ?_) fM
      rw [v4, if_neg (by omega), if_neg (by omega), t3 t b (by omega), n2 t (by omega) (by omega)]
      exact fr t a b
    · rw [if_neg (by omega)] at ok
      obtain ⟨ok1, ok2⟩ := ok
      have hr' : av_runZ V rest s (ak_stZ V c st) = av_runZ V l 0 [] := by
        rw [← hr]
        show _ = if c = -16 then _ else if c = -15 then _ else av_runZ V rest s (ak_stZ V c st)
        rw [if_neg w, if_neg w2]
      have c14 : -14 ≤ c := by
        unfold ak_ok1Z at ok1
        by_cases a : -5 ≤ c
        · omega
        · rw [if_neg a] at ok1
          by_cases a3 : c = -12
          · omega
          · rw [if_neg a3] at ok1
            have o1 := ok1.1
            simp only [ak_opsZ, List.mem_cons, List.not_mem_nil, or_false] at o1
            omega
      refine hseg _ _ _ _ _ r1 M _ _ _ _ _ d3 ⟨pt_m0, pt_m1 ⟨by show (-14 : Int) ≤ r1 807; omega, by show r1 807 ≤ 2147483647; omega⟩, pt_m0⟩ ⟨fun _ => ?_, trivial⟩
      show P (91, 0, 0) (aw_3Z v) [wa_i 730, wa_r (46 + 6 * v)] (pt_up r1 [(730, gz_p 807)]) M
      rw [← hr2]
      obtain ⟨r6, hr6⟩ : ∃ r6, r6 = pt_up r2 (pt_wc [wa_r (46 + 6 * v), wa_i 730] (pu_LZ v)) := ⟨_, rfl⟩
      have v6 : ∀ t, r6 t = if t = 727 then r2 730 else r2 t := fun t => by
        rw [hr6]
        rfl
      refine hcall (91, 0, 0) _ _ _ _ _ r2 M 66 0 807 _ _ sw_kZ.2.1 k5.1 k5.2 (sw_MZ (V := V) (c := c) (st := st) hn hv h48 ok1) (by
        rw [← hr6]
        refine ⟨⟨?_, fun k hk => ?_⟩, ?_, hs.2⟩
        · rw [v6, if_pos rfl, v2, if_pos rfl]
        · obtain ⟨a1, a2⟩ := nv k hk
          rw [v6, if_neg (by omega), n2 _ (by omega) (by omega), fr _ a1 a2]
          exact hV k hk
        · rw [v6, if_neg (by omega)]
          exact hs2) (fun r7 M7 o hq => ?_)
      rw [← hr6] at hq
      obtain ⟨rc, rs⟩ := wa_rm (n := n + 1 + 1) sw_kZ.2.2
      rw [rc, rs]
      obtain ⟨rfl, ⟨y1, y2⟩, y3, y4⟩ := hq
      obtain ⟨r8, hr8⟩ : ∃ r8, r8 = pt_mrg 727 r2 r7 807 none := ⟨_, rfl⟩
      show P (94, 0, 0) (aw_3Z v) [] (pt_mrg 727 r2 r7 807 none) _
      rw [← hr8]
      have lo8 : ∀ t, t < 727 → r8 t = r7 t := fun t ht => by
        rw [hr8]
        exact wa_mlt ht
      have hi8 : ∀ t, 727 ≤ t → r8 t = r2 t := fun t ht => by
        rw [hr8]
        exact if_neg (by omega)
      have e8 : r8 729 = (pre.length : Int) ∧ r8 728 = s := ⟨by rw [hi8 _ (by omega), n2 _ (by omega) (by omega)]; exact he.2, by rw [hi8 _ (by omega), n2 _ (by omega) (by omega)]; exact he.1⟩
      refine hseg _ _ _ _ _ r8 M7 _ _ _ _ _ d8 ⟨pt_m0, pt_m1 (b2 r8 e8.1), pt_m0⟩ ⟨fun _ => ?_, trivial⟩
      obtain ⟨r9, hr9⟩ : ∃ r9, r9 = pt_up r8 [(729, gz_d 729 1)] := ⟨_, rfl⟩
      show P (30, 0, 0) (aw_hZ v) [] (pt_up r8 [(729, gz_d 729 1)]) M7
      rw [← hr9]
      have v9 : ∀ t, r9 t = if t = 729 then r8 729 + 1 else r8 t := fun t => by
        rw [hr9]
        rfl
      have len := av_lenZ (V := V) ok1
      refine ih (pre ++ [c]) s (ak_stZ V c st) r9 M7 hp2 hr' (by rw [len]; exact ok2) (by rw [len]; exact av_dn_leZ h48 ok1) ⟨by rw [v9, if_neg (by omega)]; exact e8.2, by rw [v9, if_pos rfl, lp, e8.1]; omega⟩ ⟨by rw [v9, if_neg (by omega), lo8 _ np]; exact y1, y2⟩ (fun t a b => ?_) (fun z hz' => (y4 z hz').trans (fM z hz'))
      rw [v9, if_neg (by omega), lo8 t a, y3 t a b, v6, if_neg (by omega), n2 t (by omega) (by omega)]
      exact fr t a b
end AWS
noncomputable def aw_PZ (v : Nat) (V : Nat → Int) (l : List Int) (r : Nat → Int) (M : Nat → Nat → Int) : Prop := (r 727 = V 0 ∧ ∀ k, 1 ≤ k → k < 5 → r (sw_vZ v k) = V k) ∧ r (aw_oZ v) = (l.length : Int) ∧ ∀ j, j < l.length → M (47 + 6 * v) j = l.getD j 0
noncomputable def aw_QZ (v : Nat) (V : Nat → Int) (l : List Int) (r : Nat → Int) (M : Nat → Nat → Int) (r2 : Nat → Int) (M2 : Nat → Nat → Int) (o : Option Int) : Prop := o = some (av_askZ V l) ∧ (∀ t, t < 727 → t ≠ pu_dZ v → t ≠ sw_vZ v 0 → r2 t = r t) ∧ ∀ z, z ≠ 49 + 6 * v → M2 z = M z
theorem aw_MZ {n v : Nat} {V : Nat → Int} {l : List Int} (hn : 4 ≤ n) (hv : v < 4) (hl : l.length ≤ 200) (ok : av_okZ l 0) : pt_Met (n + 1 + 1 + 1) 65 zxY (pu_LZ v) (aw_PZ v V l) (aw_QZ v V l) 1 := by
  refine pt_introN (L0 := aw_LZ v wa_u wa_u wa_u) aw_kZ.2.2.1 (by omega) zxsys (by
    rw [aw_kZ.2.1.2]
    rfl) (fun P r M h hlen hp => ?_)
  have h' := h
  obtain ⟨hseg, henv, -, -, -, -, -, -, -, -, hret, -⟩ := h'
  obtain ⟨⟨p1, p2⟩, p3, p4⟩ := hp
  have q1 := List.all_eq_true.mp aw_c1Z v (List.mem_range.mpr hv)
  simp only [Bool.and_eq_true] at q1
  obtain ⟨⟨c1, c2⟩, -⟩ := q1
  by_cases e : l = []
  · subst e
    have p3 : r (aw_oZ v) = 0 := p3
    refine hseg _ _ _ _ _ r M _ _ _ _ _ c1 ⟨pt_m0, pt_m1 ⟨by show (0 : Int) ≤ r (aw_oZ v); omega, by show r (aw_oZ v) ≤ 0; omega⟩, pt_m0⟩ ⟨fun _ => ?_, trivial⟩
    refine hret (13, 0, 0) _ (sw_vZ v 3, 0) r M rfl aw_kZ.2.1.1.1 (by decide +kernel) (by decide +kernel) ⟨congrArg some ?_, fun _ _ _ _ => rfl, fun _ _ => rfl⟩
    show r (sw_vZ v 3) + 0 = av_askZ V []
    rw [Int.add_zero, p2 3 (by omega) (by omega)]
    exact (if_pos rfl).symm
  · have l1 : 1 ≤ l.length := by
      rcases l with _ | ⟨c, l⟩
      · exact absurd rfl e
      · rw [List.length_cons]
        omega
    refine hseg _ _ _ _ _ r M _ _ _ _ _ c2 ⟨pt_m0, pt_m1 ⟨by show (1 : Int) ≤ r (aw_oZ v); omega, by show r (aw_oZ v) ≤ 200; omega⟩, pt_m0⟩ ⟨fun _ => ?_, trivial⟩
    obtain ⟨r2, hr2⟩ : ∃ r2, r2 = pt_up r [(pu_dZ v, gz_k 0), (sw_vZ v 0, gz_p 727), (728, gz_k 0), (729, gz_k 0)] := ⟨_, rfl⟩
    show P (30, 0, 0) (aw_hZ v) [] (pt_up r [(pu_dZ v, gz_k 0), (sw_vZ v 0, gz_p 727), (728, gz_k 0), (729, gz_k 0)]) M
    rw [← hr2]
    have v2 : ∀ t, r2 t = if t = pu_dZ v then 0 else if t = sw_vZ v 0 then r 727 else if t = 728 then 0 else if t = 729 then 0 else r t := fun t => by
      rw [hr2]
      rfl
    have nn : (pu_dZ v < 727 ∧ aw_oZ v < 727) ∧ (aw_oZ v ≠ pu_dZ v ∧ (∀ k, k < 5 → sw_vZ v k < 727 ∧ sw_vZ v k ≠ pu_dZ v ∧ sw_vZ v k ≠ aw_oZ v) ∧ ∀ k, 1 ≤ k → sw_vZ v k ≠ sw_vZ v 0) := by
      unfold pu_dZ aw_oZ
      refine ⟨⟨by omega, by omega⟩, by omega, fun k hk => ?_, fun k hk => ?_⟩
      · unfold sw_vZ
        omega
      · unfold sw_vZ
        omega
    obtain ⟨⟨np, no⟩, nop, nv, nw⟩ := nn
    have z0 := nv 0 (by omega)
    refine aw_loopZ (r0 := r2) (M0 := M) (V := V) h hlen hn hv hl ?_ p4 (fun k hk => ?_) (fun r3 M3 a ha f3 g3 => ?_) l [] 0 [] r2 M rfl rfl ok (Nat.zero_le _) ⟨?_, ?_⟩ ⟨?_, ak_at_0Z⟩ (fun _ _ _ => rfl) (fun _ _ => rfl)
    · rw [v2, if_neg nop, if_neg (fun q => z0.2.2 q.symm), if_neg (by omega), if_neg (by omega)]
      exact p3
    · obtain ⟨a1, a2, a3⟩ := nv k hk
      rw [v2, if_neg a2]
      by_cases k0 : k = 0
      · subst k0
        rw [if_pos rfl]
        exact p1
      · rw [if_neg (nw k (by omega)), if_neg (by omega), if_neg (by omega)]
        exact p2 k (by omega) hk
    · refine ⟨congrArg some ?_, fun t a1 b1 c1 => ?_, g3⟩
      · rw [ha]
        exact (if_neg e).symm
      · rw [f3 t a1 b1, v2, if_neg b1, if_neg c1, if_neg (by omega), if_neg (by omega)]
    · rw [v2, if_neg (by omega), if_neg (by omega), if_pos rfl]
    · rw [v2, if_neg (by omega), if_neg (by omega), if_neg (by omega), if_pos rfl]
      rfl
    · rw [v2, if_pos rfl]
      rfl
