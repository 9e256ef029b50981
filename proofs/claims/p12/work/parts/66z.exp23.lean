/-! ASKED (the reference): clause by clause -/
abbrev rk_wfZ (cls : List (List Int × Int)) : Prop := ∀ q ∈ cls, (q.2 = -15 ∨ q.2 = -16) ∧ (∀ c ∈ q.1, -15 < c) ∧ ps_dp 31 q.1 0 = some 1
noncomputable def rk_runZ (V : Nat → Int) : List (List Int × Int) → Int → Option Int
  | [], s => some s
  | q :: t, s => if q.2 = -15 then rk_runZ V t (ai_op 0 s ((av_stsZ V q.1 []).getD 0 0)) else if (av_stsZ V q.1 []).getD 0 0 = 0 then none else rk_runZ V t s
theorem av_run_mZ {V : Nat → Int} {s : Int} {rest : List Int} : ∀ {m st : List Int}, (∀ c ∈ m, -15 < c) → av_runZ V (m ++ rest) s st = av_runZ V rest s (av_stsZ V m st)
  | [], _, _ => rfl
  | c :: m, st, h => by
    have hc := h c List.mem_cons_self
    show (if c = -16 then _ else if c = -15 then _ else av_runZ V (m ++ rest) s (ak_stZ V c st)) = _
    rw [if_neg (by omega), if_neg (by omega)]
    exact av_run_mZ (fun z hz => h z (List.mem_cons_of_mem _ hz))
theorem av_sts_lenZ {V : Nat → Int} : ∀ {m st : List Int} {d1 : Nat}, ps_dp 31 m st.length = some d1 → (av_stsZ V m st).length = d1
  | [], _, _, h => Option.some.inj h
  | c :: m, st, d1, h => by
    rw [ps_dp_c] at h
    show (av_stsZ V m (ak_stZ V c st)).length = d1
    by_cases a : -5 ≤ c
    · rw [if_pos a] at h
      by_cases b : st.length < 31
      · rw [if_pos b] at h
        have e := av_lenZ (V := V) (c := c) (st := st) (by
          unfold ak_ok1Z
          rw [if_pos a]
          omega)
        exact av_sts_lenZ (by rw [e, show av_dnZ c st.length = st.length + 1 from if_pos a]; exact h)
      · rw [if_neg b] at h
        cases h
    · rw [if_neg a] at h
      by_cases b : c = -12
      · rw [if_pos b] at h
        by_cases x : 1 ≤ st.length
        · rw [if_pos x] at h
          have e := av_lenZ (V := V) (c := c) (st := st) (by
            unfold ak_ok1Z
            rw [if_neg a, if_pos b]
            exact x)
          exact av_sts_lenZ (by rw [e, show av_dnZ c st.length = st.length from (if_neg a).trans (if_pos b)]; exact h)
        · rw [if_neg x] at h
          cases h
      · rw [if_neg b] at h
        by_cases x14 : -14 ≤ c
        · rw [if_pos x14] at h
          by_cases x : 2 ≤ st.length
          · rw [if_pos x] at h
            have e := av_lenZ (V := V) (c := c) (st := st) (by
              unfold ak_ok1Z
              rw [if_neg a, if_neg b]
              refine ⟨?_, x⟩
              simp only [ak_opsZ, List.mem_cons, List.not_mem_nil, or_false]
              omega)
            exact av_sts_lenZ (by rw [e, show av_dnZ c st.length = st.length - 1 from (if_neg a).trans (if_neg b)]; exact h)
          · rw [if_neg x] at h
            cases h
        · rw [if_neg x14] at h
          cases h
theorem rk_jnZ {q : List Int × Int} {cls : List (List Int × Int)} : ps_jn (q :: cls) = q.1 ++ (q.2 :: ps_jn cls) := by
  show (q.1 ++ [q.2]) ++ ps_jn cls = _
  rw [List.append_assoc]
  rfl
/-- the codes in a row are the clauses in a row -/
theorem rk_eqZ {V : Nat → Int} : ∀ {cls : List (List Int × Int)} {s : Int}, rk_wfZ cls → av_runZ V (ps_jn cls) s [] = rk_runZ V cls s
  | [], _, _ => rfl
  | q :: cls, s, h => by
    obtain ⟨h1, h2, h3⟩ := h q List.mem_cons_self
    rw [rk_jnZ, av_run_mZ h2]
    obtain ⟨x, hx⟩ : ∃ x, av_stsZ V q.1 [] = [x] := by
      have l := av_sts_lenZ (V := V) (st := []) h3
      rcases e : av_stsZ V q.1 [] with _ | ⟨x, _ | ⟨y, t⟩⟩
      · rw [e] at l
        exact absurd l (Nat.succ_ne_zero 0).symm
      · exact ⟨x, rfl⟩
      · rw [e, List.length_cons, List.length_cons] at l
        omega
    have ih : ∀ s, av_runZ V (ps_jn cls) s [] = rk_runZ V cls s := fun s => rk_eqZ (fun z hz => h z (List.mem_cons_of_mem _ hz))
    rw [hx]
    have er : rk_runZ V (q :: cls) s = if q.2 = -15 then rk_runZ V cls (ai_op 0 s ((av_stsZ V q.1 []).getD 0 0)) else if (av_stsZ V q.1 []).getD 0 0 = 0 then none else rk_runZ V cls s := rfl
    rw [er, hx]
    show (if q.2 = -16 then (if x = 0 then none else av_runZ V (ps_jn cls) s []) else if q.2 = -15 then av_runZ V (ps_jn cls) (ai_op 0 s x) [] else _) = if q.2 = -15 then rk_runZ V cls (ai_op 0 s x) else if x = 0 then none else rk_runZ V cls s
    rcases h1 with w | w
    · rw [if_neg (by omega), if_pos w, if_pos w]
      exact ih _
    · rw [if_pos w, ih, if_neg (show ¬ q.2 = -15 by omega)]
noncomputable def rk_ansZ : Option Int → Int
  | none => -1
  | some s => av_capZ s
theorem rk_askZ {V : Nat → Int} {cls : List (List Int × Int)} (h : rk_wfZ cls) (hne : cls ≠ []) : av_askZ V (ps_jn cls) = rk_ansZ (rk_runZ V cls 0) := by
  have ne : ps_jn cls ≠ [] := by
    rcases cls with _ | ⟨q, cls⟩
    · exact absurd rfl hne
    · rw [rk_jnZ]
      exact List.append_ne_nil_of_right_ne_nil _ (List.cons_ne_nil _ _)
  unfold av_askZ
  rw [if_neg ne, rk_eqZ h]
  rcases rk_runZ V cls 0 with _ | s <;> rfl
theorem av_cap_bZ {s : Int} : 0 ≤ av_capZ s ∧ av_capZ s ≤ 9999 := by
  show 0 ≤ ai_max 0 (ai_min 9999 s) ∧ ai_max 0 (ai_min 9999 s) ≤ 9999
  have m1 : ai_min 9999 s ≤ 9999 := by
    unfold ai_min
    cases e : ai_le 9999 s with
    | true => exact Int.le_refl _
    | false =>
      have : ¬ (9999 ≤ s) := fun w => by
        rw [ai_le_iff.mpr w] at e
        cases e
      show s ≤ 9999
      omega
  unfold ai_max
  cases e : ai_le 0 (ai_min 9999 s) with
  | true => exact ⟨ai_le_iff.mp e, m1⟩
  | false => exact ⟨Int.le_refl _, (by decide : (0 : Int) ≤ 9999)⟩
theorem av_ask_bZ {V : Nat → Int} {l : List Int} (h : 0 ≤ V 3 ∧ V 3 ≤ 999) : av_askZ V l = -1 ∨ (0 ≤ av_askZ V l ∧ av_askZ V l ≤ 9999) := by
  unfold av_askZ
  split
  · exact Or.inr ⟨h.1, by omega⟩
  · split
    · exact Or.inl rfl
    · exact Or.inr av_cap_bZ
theorem gb_glZ {m : List Int} : ∀ {l : List Int} {x : Nat}, x < l.length → (l ++ m).getD x 0 = l.getD x 0
  | [], x, h => absurd h (Nat.not_lt_zero x)
  | _ :: _, 0, _ => rfl
  | _ :: l, _ + 1, h => gb_glZ (l := l) (Nat.lt_of_succ_lt_succ h)
theorem gb_l2Z : ∀ l : List Int, (gb_cs l).length ≤ 2 * l.length
  | [] => Nat.le_refl _
  | c :: l => by
    rw [gb_cs_c, List.length_append, List.length_cons]
    have ih := gb_l2Z l
    have : (gb_enc c).length ≤ 2 := by
      unfold gb_enc
      split
      · exact Nat.le_refl 2
      · split
        · exact Nat.le_succ 1
        · split
          · exact Nat.le_succ 1
          · split
            · exact Nat.le_succ 1
            · split
              · exact Nat.le_succ 1
              · split
                · exact Nat.le_succ 1
                · exact Nat.zero_le 2
    omega
theorem gb_jcZ {q : List Int × Int} {cls : List (List Int × Int)} (h1 : q.2 = -15 ∨ q.2 = -16) : gb_cs (ps_jn (q :: cls)) = gb_cs q.1 ++ gb_cs (ps_jn cls) := by
  rw [rk_jnZ]
  unfold gb_cs
  rw [List.flatMap_append, List.flatMap_cons, gb_enc_h h1]
  rfl
theorem gb_jtZ {q : List Int × Int} {cls : List (List Int × Int)} {s : Nat} (h1 : q.2 = -15 ∨ q.2 = -16) (h2 : ∀ c ∈ q.1, -15 < c) : gb_tb (ps_jn (q :: cls)) s s = (-15 - q.2, s, s + (gb_cs q.1).length) :: gb_tb (ps_jn cls) (s + (gb_cs q.1).length) (s + (gb_cs q.1).length) := by
  obtain ⟨n1, n2⟩ := gb_tb_n (m := q.1) (s := s) (e := s) h2
  rw [rk_jnZ, gb_tb_a.1, n1, n2, List.nil_append, gb_tb_c, if_pos h1]
theorem gb_jlZ : ∀ {cls : List (List Int × Int)} {s : Nat}, rk_wfZ cls → (gb_tb (ps_jn cls) s s).length = cls.length
  | [], _, _ => rfl
  | q :: cls, s, h => by
    obtain ⟨h1, h2, -⟩ := h q List.mem_cons_self
    rw [gb_jtZ h1 h2, List.length_cons, List.length_cons, gb_jlZ (fun z hz => h z (List.mem_cons_of_mem _ hz))]
/-- a clause's place in the table, and its codes -/
theorem gb_jxZ : ∀ {pre : List (List Int × Int)} {q : List Int × Int} {rest : List (List Int × Int)} {s : Nat}, rk_wfZ (pre ++ q :: rest) → ((gb_tb (ps_jn (pre ++ q :: rest)) s s).getD pre.length (0, 0, 0) = (-15 - q.2, s + (gb_cs (ps_jn pre)).length, s + (gb_cs (ps_jn pre)).length + (gb_cs q.1).length) ∧ (gb_cs (ps_jn pre)).length + (gb_cs q.1).length ≤ (gb_cs (ps_jn (pre ++ q :: rest))).length) ∧ ∀ x, x < (gb_cs q.1).length → (gb_cs (ps_jn (pre ++ q :: rest))).getD ((gb_cs (ps_jn pre)).length + x) 0 = (gb_cs q.1).getD x 0
  | [], q, rest, s, h => by
    obtain ⟨h1, h2, -⟩ := h q List.mem_cons_self
    have z : (gb_cs (ps_jn ([] : List (List Int × Int)))).length = 0 := rfl
    rw [z, List.nil_append, List.length_nil]
    refine ⟨⟨?_, ?_⟩, fun x hx => ?_⟩
    · rw [gb_jtZ h1 h2]
      rfl
    · rw [gb_jcZ h1, List.length_append]
      omega
    · rw [gb_jcZ h1, Nat.zero_add, gb_glZ hx]
  | p :: pre, q, rest, s, h => by
    obtain ⟨h1, h2, -⟩ := h p List.mem_cons_self
    obtain ⟨⟨g1, g2⟩, g3⟩ := gb_jxZ (pre := pre) (q := q) (rest := rest) (s := s + (gb_cs p.1).length) (fun z hz => h z (List.mem_cons_of_mem _ hz))
    have e : (gb_cs (ps_jn (p :: pre))).length = (gb_cs p.1).length + (gb_cs (ps_jn pre)).length := by rw [gb_jcZ h1, List.length_append]
    rw [e, List.cons_append, gb_jtZ h1 h2, gb_jcZ h1]
    refine ⟨⟨?_, ?_⟩, fun x hx => ?_⟩
    · show (gb_tb (ps_jn (pre ++ q :: rest)) (s + (gb_cs p.1).length) (s + (gb_cs p.1).length)).getD pre.length (0, 0, 0) = _
      rw [g1, Nat.add_assoc s (gb_cs p.1).length (gb_cs (ps_jn pre)).length]
    · rw [List.length_append]
      omega
    · rw [Nat.add_assoc, ps_gr]
      exact g3 x hx
/-! ASKED (the reference): what is asked of one unit -/
noncomputable def ro_LZ (v : Nat) (a b c d : ai_V) : List ai_V := [wa_r 264, wa_k v, wa_i 728, wa_i 729, wa_i 730, a, b, c, d]
noncomputable def ro_iZ (v : Nat) : ai_V := .inl (732, .ofNat (8 * v))
noncomputable def ro_hZ (v : Nat) : List ai_V := ro_LZ v (wa_i 731) (wa_i 732) wa_u wa_u
noncomputable def ro_gZ (v : Nat) : List ai_V := ro_LZ v (wa_i 731) (wa_i 732) (ro_iZ v) wa_u
noncomputable def ro_fZ (v : Nat) : List ai_V := ro_LZ v (wa_i 731) (wa_i 732) (ro_iZ v) (wa_i 733)
noncomputable def ro_cZ (v : Nat) : List ai_V := [wa_r 264, wa_k v, ro_iZ v]
noncomputable abbrev ro_rZ (st : List Nat) (sk : Bool) (pc : Nat) (L S : List ai_V) (cp : List (Nat × Int × Int)) (le : List (ai_X × ai_X)) (pc2 : Nat) (L2 S2 : List ai_V) (W : List (Nat × pt_X)) : Bool := pt_row zyY 207 st sk (pc, 0, 0) L S [] cp le [291] [((pc2, 0, 0), (L2, S2), W, [])]
theorem ro_c1Z : (List.range 4).all (fun v => (ro_rZ [15, 68] true 0 (ro_LZ v wa_u wa_u wa_u wa_u) [] [(369 + v, (0, 0))] [] 15 (ro_LZ v wa_u wa_u wa_u wa_u) [wa_i (149 + v)] [] && ro_rZ [15, 68] true 0 (ro_LZ v wa_u wa_u wa_u wa_u) [] [(369 + v, (1, 1))] [] 68 (ro_hZ v) [] [(419, gz_p 728), (419 + 1, gz_p 729), (419 + 2, gz_p 730), (419 + 3, gz_p (149 + v)), (419 + 4, gz_p (145 + v)), (731, gz_k 0), (732, gz_k 0)]) &&
    ((ro_rZ [75] false 68 (ro_hZ v) [] [] [] 75 (ro_hZ v) [wa_k v, wa_r 286, wa_i 732] [] && ro_rZ [92, 130] false 76 (ro_hZ v) [wa_i 807, wa_i 732] [(807, (1, 8)), (732, (0, 7))] [((732, 1), (807, 0))] 92 (ro_gZ v) [ro_iZ v, wa_k v, wa_r 264] []) && (ro_rZ [92, 130] false 76 (ro_hZ v) [wa_i 807, wa_i 732] [(807, (0, 8)), (732, (0, 8))] [((807, 0), (732, 0))] 130 (ro_hZ v) [] [] && ro_rZ [103] false 95 (ro_gZ v) [wa_i 807] [(732, (0, 7))] [] 103 (ro_fZ v) [ro_iZ v, wa_r 287] [(733, gz_p 807)]))) = true := by decide +kernel
theorem ro_c2Z : (List.range 4).all (fun v => (ro_rZ [68, 117] false 104 (ro_fZ v) [wa_i 807] [(807, (0, 0)), (732, (0, 7))] [] 68 (ro_hZ v) [] [(731, [(0, 731, 0), (0, 733, 0), (2, 0, 0)]), (732, gz_d 732 1)] && ro_rZ [68, 117] false 104 (ro_fZ v) [wa_i 807] [(807, (1, 1)), (732, (0, 7))] [] 117 (ro_fZ v) [] []) &&
    ((ro_rZ [68, 123] false 117 (ro_fZ v) [] [(733, (0, 0))] [] 123 (ro_fZ v) [.inl (0, -1)] [] && ro_rZ [68, 123] false 117 (ro_fZ v) [] [(733, ak_pZ), (732, (0, 7))] [] 68 (ro_hZ v) [] [(732, gz_d 732 1)]) && (ro_rZ [68, 123] false 117 (ro_fZ v) [] [(733, ak_nZ), (732, (0, 7))] [] 68 (ro_hZ v) [] [(732, gz_d 732 1)] && ro_rZ [142] false 130 (ro_hZ v) [] [] [] 142 (ro_hZ v) [wa_i 807] [(807, [(1, 0, 0), (1, 0, 9999), (0, 731, 0), (2, 12, 0), (2, 11, 0)])]))) = true := by decide +kernel
theorem ro_kZ : (List.range 4).all (fun v => (pt_lck zyY 207 75 1 286 5 0 807 (ro_hZ v) [wa_i 732] && pt_lck zyY 207 103 1 287 40 0 807 (ro_fZ v) []) && (cy_vk 207 92 206 zyY.2.1 [ro_iZ v, wa_k v, wa_r 264] (ro_cZ v) [] && pt_cck zyY 207 206 (92, 0, 0) 1 807 (ro_gZ v) [] (ro_cZ v) wk2_aZ)) = true ∧ ((pt_is 5 207 15 = true ∧ pt_is 5 207 123 = true ∧ pt_is 5 207 142 = true) ∧ (ct_mt 207).2.2.1 = 9) ∧ lh_plain 207 = true ∧ ct_bud 207 = (0, 0) := by decide +kernel
section ROS
variable {n v : Nat} {Z : (Nat → Int) → (Nat → Nat → Int) → Option Int → Prop} {P : pt_P} {V : Nat → Int} {cls : List (List Int × Int)} {r0 : Nat → Int} {M0 : Nat → Nat → Int}
theorem ro_loopZ (h : pt_Cl (n + 1 + 1) 207 zyY 1 Z P) (hn : 4 ≤ n) (hv : v < 4) (hw : rk_wfZ cls) (hK : go_K v (ps_jn cls) M0) (hV : ∀ k, k < 5 → r0 (419 + k) = V k)
    (hz : ∀ r2 M2 a, a = rk_ansZ (rk_runZ V cls 0) → (∀ t, t < 727 → r2 t = r0 t) → (∀ z, z ≠ 292 → M2 z = M0 z) → Z r2 M2 (some a)) :
    ∀ (rest pre : List (List Int × Int)) (s : Int) (r : Nat → Int) (M : Nat → Nat → Int), pre ++ rest = cls → rk_runZ V rest s = rk_runZ V cls 0 → (r 731 = s ∧ r 732 = (pre.length : Int)) → (∀ t, t < 727 → r t = r0 t) → (∀ z, z ≠ 292 → M z = M0 z) → P (68, 0, 0) (ro_hZ v) [] r M := by
  have h' := h
  obtain ⟨hseg, henv, -, -, hld, -, -, -, hcall, -, hret, -⟩ := h'
  have q1 := List.all_eq_true.mp ro_c1Z v (List.mem_range.mpr hv)
  simp only [Bool.and_eq_true] at q1
  obtain ⟨-, ⟨c1, c2⟩, c3, c4⟩ := q1
  have q2 := List.all_eq_true.mp ro_c2Z v (List.mem_range.mpr hv)
  simp only [Bool.and_eq_true] at q2
  obtain ⟨⟨d1, d2⟩, ⟨d3, d4⟩, d5, d6⟩ := q2
  have qk := List.all_eq_true.mp ro_kZ.1 v (List.mem_range.mpr hv)
  rw [Bool.and_eq_true, Bool.and_eq_true, Bool.and_eq_true] at qk
  obtain ⟨⟨k1, k2⟩, k3, k4⟩ := qk
  obtain ⟨l200, ⟨l8, e286⟩, tbl, cds⟩ := hK
  rw [gb_jlZ hw] at l8 e286 tbl
  have l400 : (gb_cs (ps_jn cls)).length ≤ 400 := Nat.le_trans (gb_l2Z _) (by omega)
  -- the head: how many clauses there are
  have head : ∀ (i : Nat) (s : Int) (r : Nat → Int) (M : Nat → Nat → Int), (r 731 = s ∧ r 732 = (i : Int)) → (∀ t, t < 727 → r t = r0 t) → (∀ z, z ≠ 292 → M z = M0 z) → (∀ r2 : Nat → Int, r2 807 = (cls.length : Int) → (r2 731 = s ∧ r2 732 = (i : Int)) → (∀ t, t < 727 → r2 t = r0 t) → P (76, 0, 0) (ro_hZ v) [wa_i 807, wa_i 732] r2 M) → P (68, 0, 0) (ro_hZ v) [] r M := fun i s r M he fr fM k => by
    refine henv _ _ _ _ _ (fun hE _ => ?_)
    have h0 : r 0 = 0 := hE.1
    refine hseg _ _ _ _ _ r M _ _ _ _ _ c1 ⟨pt_m0, pt_m0, pt_m0⟩ ⟨fun _ => ?_, trivial⟩
    refine hld (75, 0, 0) _ [wa_i 732] r M 286 5 807 v (0, .ofNat v) k1 (by omega) (by show r 0 + (v : Int) = (v : Int); rw [h0, Int.zero_add]) ?_
    rw [fM 286 (by omega), e286]
    obtain ⟨r1, hr1⟩ : ∃ r1, r1 = pt_set r 807 (cls.length : Int) := ⟨_, rfl⟩
    show P (76, 0, 0) (ro_hZ v) [wa_i 807, wa_i 732] (pt_set r 807 (cls.length : Int)) M
    rw [← hr1]
    have n1 : ∀ t, t ≠ 807 → r1 t = r t := fun t a => by
      rw [hr1]
      exact if_neg a
    exact k r1 (by rw [hr1]; exact gz_sset) ⟨(n1 _ (by omega)).trans he.1, (n1 _ (by omega)).trans he.2⟩ (fun t a => (n1 t (by omega)).trans (fr t a))
  intro rest
  induction rest with
  | nil =>
    intro pre s r M hp hr he fr fM
    rw [List.append_nil] at hp
    refine head pre.length s r M he fr fM (fun r1 a1 a2 a3 => ?_)
    rw [← hp] at a1
    rw [← hp] at l8
    refine hseg _ _ _ _ _ r1 M _ _ _ _ _ c3 ⟨pt_m0, pt_m2 ⟨by show (0 : Int) ≤ r1 807; omega, by show r1 807 ≤ 8; omega⟩ ⟨by show (0 : Int) ≤ r1 732; omega, by show r1 732 ≤ 8; omega⟩, pt_m1 (by show r1 807 + 0 ≤ r1 732 + 0; omega)⟩ ⟨fun _ => ?_, trivial⟩
    refine hseg _ _ _ _ _ r1 M _ _ _ _ _ d6 ⟨pt_m0, pt_m0, pt_m0⟩ ⟨fun _ => ?_, trivial⟩
    obtain ⟨r2, hr2⟩ : ∃ r2, r2 = pt_up r1 [(807, [(1, 0, 0), (1, 0, 9999), (0, 731, 0), (2, 12, 0), (2, 11, 0)])] := ⟨_, rfl⟩
    show P (142, 0, 0) (ro_hZ v) [.inl (807, 0)] (pt_up r1 [(807, [(1, 0, 0), (1, 0, 9999), (0, 731, 0), (2, 12, 0), (2, 11, 0)])]) M
    rw [← hr2]
    have v2 : ∀ t, r2 t = if t = 807 then av_capZ (r1 731) else r1 t := fun t => by
      rw [hr2]
      rfl
    refine hret (142, 0, 0) _ (807, 0) r2 M rfl ro_kZ.2.1.1.2.2 (by decide +kernel) (by decide +kernel) (hz r2 M _ ?_ (fun t a => ?_) fM)
    · rw [← hr]
      show r2 807 + 0 = av_capZ s
      rw [Int.add_zero, v2, if_pos rfl, a2.1]
    · rw [v2, if_neg (by omega)]
      exact a3 t a
  | cons q rest ih =>
    intro pre s r M hp hr he fr fM
    have hp2 : (pre ++ [q]) ++ rest = cls := by
      rw [List.append_assoc]
      exact hp
    have lp : (pre ++ [q]).length = pre.length + 1 := by
      rw [List.length_append]
      rfl
    have ll : pre.length < cls.length := by
      rw [← hp, List.length_append, List.length_cons]
      omega
    obtain ⟨h1, h2, h3⟩ := hw q (by rw [← hp]; exact List.mem_append_right _ List.mem_cons_self)
    obtain ⟨⟨g1, g2⟩, g3⟩ := gb_jxZ (pre := pre) (q := q) (rest := rest) (s := 0) (by rw [hp]; exact hw)
    rw [hp] at g1 g2 g3
    obtain ⟨a, ha⟩ : ∃ a, a = (gb_cs (ps_jn pre)).length := ⟨_, rfl⟩
    rw [← ha, Nat.zero_add] at g1
    rw [← ha] at g2 g3
    obtain ⟨t1, t2, t3⟩ := tbl pre.length ll
    rw [g1] at t1 t2 t3
    refine head pre.length s r M he fr fM (fun r1 a1 a2 a3 => ?_)
    refine hseg _ _ _ _ _ r1 M _ _ _ _ _ c2 ⟨pt_m0, pt_m2 ⟨by show (1 : Int) ≤ r1 807; omega, by show r1 807 ≤ 8; omega⟩ ⟨by show (0 : Int) ≤ r1 732; omega, by show r1 732 ≤ 7; omega⟩, pt_m1 (by show r1 732 + 1 ≤ r1 807 + 0; omega)⟩ ⟨fun _ => ?_, trivial⟩
    show P (92, 0, 0) (ro_gZ v) [ro_iZ v, wa_k v, wa_r 264] r1 M
    refine henv _ _ _ _ _ (fun hE1 _ => ?_)
    have h10 : r1 0 = 0 := hE1.1
    obtain ⟨r6, hr6⟩ : ∃ r6, r6 = pt_up r1 (pt_wc (ro_cZ v) wk2_aZ) := ⟨_, rfl⟩
    have v6 : ∀ t, r6 t = if t = 727 then (v : Int) else if t = 728 then r1 732 + ((8 * v : Nat) : Int) else r1 t := fun t => by
      have e1 : pt_v r1 (pt_xr (0, .ofNat v)) = (v : Int) := by
        rw [pt_xr_ok h10]
        show r1 0 + (v : Int) = _
        rw [h10, Int.zero_add]
      have e2 : pt_v r1 (pt_xr (732, .ofNat (8 * v))) = r1 732 + ((8 * v : Nat) : Int) := by
        rw [pt_xr_ok h10]
        rfl
      rw [hr6, ← e2, ← e1]
      rfl
    have lc : 8 * v + pre.length < 32 := by omega
    refine hcall (92, 0, 0) _ _ _ _ _ r1 M 206 1 807 _ _ wk2_k2Z.2.2.1 k3 k4 (wk2_MZ (n := n) (v := v) (ci := 8 * v + pre.length) (s0 := a) (V := V) (m := q.1) hn hv lc (Nat.le_trans g2 l400) h3) (by
      rw [← hr6]
      refine ⟨⟨⟨?_, ?_⟩, fun k hk => ?_⟩, ⟨?_, ?_⟩, fun x hx => ?_⟩
      · rw [v6, if_pos rfl]
      · rw [v6, if_neg (by omega), if_pos rfl, a2.2]
        omega
      · rw [v6, if_neg (by omega), if_neg (by omega), a3 _ (by omega)]
        exact hV k hk
      · rw [fM 288 (by omega)]
        exact t2
      · rw [fM 289 (by omega)]
        exact t3
      · rw [fM 290 (by omega), Nat.add_assoc, cds (a + x) (by omega)]
        exact g3 x hx) (fun r7 M7 o hq => ?_)
    rw [← hr6] at hq
    obtain ⟨rc, rs⟩ := wa_rm (n := n + 1 + 1) wk2_k2Z.2.2.2
    rw [rc, rs]
    obtain ⟨rfl, y2, y3⟩ := hq
    obtain ⟨x, hx⟩ : ∃ x, x = (av_stsZ V q.1 []).getD 0 0 := ⟨_, rfl⟩
    rw [← hx]
    obtain ⟨r8, hr8⟩ : ∃ r8, r8 = pt_mrg 727 r1 r7 807 (some x) := ⟨_, rfl⟩
    show P (95, 0, 0) (ro_gZ v) [wa_i 807] (pt_mrg 727 r1 r7 807 (some x)) _
    rw [← hr8]
    have lo8 : ∀ t, t < 727 → r8 t = r0 t := fun t ht => by
      rw [hr8, wa_mlt ht, y2 t ht, v6, if_neg (by omega), if_neg (by omega)]
      exact a3 t ht
    have hi8 : ∀ t, 727 ≤ t → t ≠ 807 → r8 t = r1 t := fun t ht hne => by
      rw [hr8]
      show (if t < 727 then r7 t else if t = 807 then x else r1 t) = r1 t
      rw [if_neg (by omega), if_neg hne]
    have t8 : r8 807 = x := by
      rw [hr8]
      exact wa_mz (by omega)
    have e8 : r8 731 = s ∧ r8 732 = (pre.length : Int) := ⟨(hi8 _ (by omega) (by omega)).trans a2.1, (hi8 _ (by omega) (by omega)).trans a2.2⟩
    have f7 : ∀ z, z ≠ 292 → M7 z = M0 z := fun z w => (y3 z w).trans (fM z w)
    refine henv _ _ _ _ _ (fun hE8 _ => ?_)
    have b32 := (ge_i32Z hE8).2
    refine hseg _ _ _ _ _ r8 M7 _ _ _ _ _ c4 ⟨pt_m0, pt_m1 ⟨by show (0 : Int) ≤ r8 732; omega, by show r8 732 ≤ 7; omega⟩, pt_m0⟩ ⟨fun _ => ?_, trivial⟩
    obtain ⟨r9, hr9⟩ : ∃ r9, r9 = pt_up r8 [(733, gz_p 807)] := ⟨_, rfl⟩
    show P (103, 0, 0) (ro_fZ v) [ro_iZ v, wa_r 287] (pt_up r8 [(733, gz_p 807)]) M7
    rw [← hr9]
    have v9 : ∀ t, r9 t = if t = 733 then r8 807 else r8 t := fun t => by
      rw [hr9]
      rfl
    refine hld (103, 0, 0) _ [] r9 M7 287 40 807 (8 * v + pre.length) (732, .ofNat (8 * v)) k2 (by omega) (by show r9 732 + ((8 * v : Nat) : Int) = _; rw [v9, if_neg (by omega), e8.2]; omega) ?_
    rw [f7 287 (by omega), t1]
    obtain ⟨rA, hrA⟩ : ∃ rA, rA = pt_set r9 807 (-15 - q.2) := ⟨_, rfl⟩
    show P (104, 0, 0) (ro_fZ v) [wa_i 807] (pt_set r9 807 (-15 - q.2)) M7
    rw [← hrA]
    have nA : ∀ t, t ≠ 807 → rA t = r9 t := fun t w => by
      rw [hrA]
      exact if_neg w
    have tA : rA 807 = -15 - q.2 := by
      rw [hrA]
      exact gz_sset
    have eA : (rA 731 = s ∧ rA 732 = (pre.length : Int)) ∧ rA 733 = x := ⟨⟨by rw [nA _ (by omega), v9, if_neg (by omega)]; exact e8.1, by rw [nA _ (by omega), v9, if_neg (by omega)]; exact e8.2⟩, by rw [nA _ (by omega), v9, if_pos rfl, t8]⟩
    have fA : ∀ t, t < 727 → rA t = r0 t := fun t w => by
      rw [nA t (by omega), v9, if_neg (by omega)]
      exact lo8 t w
    have bE : (0 : Int) ≤ rA 732 ∧ rA 732 ≤ 7 := by
      have := eA.1.2
      omega
    have er : rk_runZ V (q :: rest) s = if q.2 = -15 then rk_runZ V rest (ai_op 0 s x) else if x = 0 then none else rk_runZ V rest s := by
      rw [hx]
      rfl
    rcases h1 with w | w
    · refine hseg _ _ _ _ _ rA M7 _ _ _ _ _ d1 ⟨pt_m0, pt_m2 ⟨by show (0 : Int) ≤ rA 807; omega, by show rA 807 ≤ 0; omega⟩ bE, pt_m0⟩ ⟨fun _ => ?_, trivial⟩
      obtain ⟨rB, hrB⟩ : ∃ rB, rB = pt_up rA [(731, [(0, 731, 0), (0, 733, 0), (2, 0, 0)]), (732, gz_d 732 1)] := ⟨_, rfl⟩
      show P (68, 0, 0) (ro_hZ v) [] (pt_up rA [(731, [(0, 731, 0), (0, 733, 0), (2, 0, 0)]), (732, gz_d 732 1)]) M7
      rw [← hrB]
      have vB : ∀ t, rB t = if t = 731 then ai_op 0 (rA 731) (rA 733) else if t = 732 then rA 732 + 1 else rA t := fun t => by
        rw [hrB]
        rfl
      rw [er, if_pos w] at hr
      refine ih (pre ++ [q]) (ai_op 0 s x) rB M7 hp2 hr ⟨by rw [vB, if_pos rfl, eA.1.1, eA.2], by rw [vB, if_neg (by omega), if_pos rfl, eA.1.2, lp]; omega⟩ (fun t b => ?_) f7
      rw [vB, if_neg (by omega), if_neg (by omega)]
      exact fA t b
    · refine hseg _ _ _ _ _ rA M7 _ _ _ _ _ d2 ⟨pt_m0, pt_m2 ⟨by show (1 : Int) ≤ rA 807; omega, by show rA 807 ≤ 1; omega⟩ bE, pt_m0⟩ ⟨fun _ => ?_, trivial⟩
      rw [er, if_neg (by omega)] at hr
      have go : x ≠ 0 → ∀ rB, rB = pt_up rA [(732, gz_d 732 1)] → P (68, 0, 0) (ro_hZ v) [] rB M7 := fun x0 rB hrB => by
        have vB : ∀ t, rB t = if t = 732 then rA 732 + 1 else rA t := fun t => by
          rw [hrB]
          rfl
        rw [if_neg x0] at hr
        refine ih (pre ++ [q]) s rB M7 hp2 hr ⟨by rw [vB, if_neg (by omega), eA.1.1], by rw [vB, if_pos rfl, eA.1.2, lp]; omega⟩ (fun t b => ?_) f7
        rw [vB, if_neg (by omega)]
        exact fA t b
      have e6 := eA.2
      rcases (by omega : x = 0 ∨ 1 ≤ x ∨ x ≤ -1) with z | z | z
      · refine hseg _ _ _ _ _ rA M7 _ _ _ _ _ d3 ⟨pt_m0, pt_m1 ⟨by show (0 : Int) ≤ rA 733; omega, by show rA 733 ≤ 0; omega⟩, pt_m0⟩ ⟨fun _ => ?_, trivial⟩
        refine hret (123, 0, 0) _ (0, -1) rA M7 rfl ro_kZ.2.1.1.2.1 (by decide +kernel) (by decide +kernel) (hz rA M7 _ ?_ fA f7)
        rw [← hr, if_pos z]
        show rA 0 + -1 = -1
        rw [fA 0 (by omega), ← a3 0 (by omega), h10]
        rfl
      · refine hseg _ _ _ _ _ rA M7 _ _ _ _ _ d4 ⟨pt_m0, pt_m2 ⟨by show (1 : Int) ≤ rA 733; omega, by show rA 733 ≤ 2147483647; omega⟩ bE, pt_m0⟩ ⟨fun _ => ?_, trivial⟩
        exact go (by omega) _ rfl
      · refine hseg _ _ _ _ _ rA M7 _ _ _ _ _ d5 ⟨pt_m0, pt_m2 ⟨by show (-2147483648 : Int) ≤ rA 733; omega, by show rA 733 ≤ -1; omega⟩ bE, pt_m0⟩ ⟨fun _ => ?_, trivial⟩
        exact go (by omega) _ rfl
end ROS
noncomputable def ro_aZ : List ai_V := [wa_r 264, wa_i 727, wa_i 728, wa_i 729, wa_i 730]
noncomputable def ro_PZ (v : Nat) (V : Nat → Int) (l : List Int) (r : Nat → Int) (M : Nat → Nat → Int) : Prop := ((r 727 = (v : Int) ∧ r 728 = V 0) ∧ r 729 = V 1 ∧ r 730 = V 2) ∧ (r (149 + v) = V 3 ∧ r (145 + v) = V 4) ∧ (r (369 + v) = if l = [] then 0 else 1) ∧ go_K v l M
noncomputable def ro_QZ (V : Nat → Int) (l : List Int) (r : Nat → Int) (M : Nat → Nat → Int) (r2 : Nat → Int) (M2 : Nat → Nat → Int) (o : Option Int) : Prop := o = some (av_askZ V l) ∧ (∀ t, t < 727 → ¬ (419 ≤ t ∧ t < 419 + 5) → r2 t = r t) ∧ ∀ z, z ≠ 292 → M2 z = M z
theorem ro_MZ {n v : Nat} {V : Nat → Int} {l : List Int} (hn : 4 ≤ n) (hv : v < 4) (hg : ps_gc l) : pt_Met (n + 1 + 1 + 1) 207 zyY ro_aZ (ro_PZ v V l) (ro_QZ V l) 1 := by
  refine pt_intro (L0 := [wa_r 264, wa_i 727, wa_i 728, wa_i 729, wa_i 730, wa_u, wa_u, wa_u, wa_u]) ro_kZ.2.2.1 (by omega) zysys (by
    rw [ro_kZ.2.1.2]
    rfl) (fun P r M h hp => ?_)
  have h' := h
  obtain ⟨hseg, henv, hrel, -, -, -, -, -, -, -, hret, -⟩ := h'
  obtain ⟨⟨⟨p0, p1⟩, p2, p3⟩, ⟨p4, p5⟩, p6, p7⟩ := hp
  obtain ⟨cls, hl, hw⟩ := hg
  refine henv _ _ _ _ _ (fun hE _ => ?_)
  have h0 : r 0 = 0 := hE.1
  refine hrel (0, 0, 0) _ (ro_LZ v wa_u wa_u wa_u wa_u) [] [] r M ⟨rfl, ⟨by show 0 < 827; omega, by show r 727 + 0 = r 0 + (v : Int); omega⟩, ⟨by show 728 < 827; omega, rfl⟩, ⟨by show 729 < 827; omega, rfl⟩, ⟨by show 730 < 827; omega, rfl⟩, trivial, trivial, trivial, trivial, trivial⟩ trivial ?_
  have q1 := List.all_eq_true.mp ro_c1Z v (List.mem_range.mpr hv)
  simp only [Bool.and_eq_true] at q1
  obtain ⟨⟨c1, c2⟩, -⟩ := q1
  by_cases e : l = []
  · rw [if_pos e] at p6
    refine hseg _ _ _ _ _ r M _ _ _ _ _ c1 ⟨pt_m0, pt_m1 ⟨by show (0 : Int) ≤ r (369 + v); omega, by show r (369 + v) ≤ 0; omega⟩, pt_m0⟩ ⟨fun _ => ?_, trivial⟩
    refine hret (15, 0, 0) _ (149 + v, 0) r M rfl ro_kZ.2.1.1.1 (by decide +kernel) (by decide +kernel) ⟨congrArg some ?_, fun _ _ _ => rfl, fun _ _ => rfl⟩
    show r (149 + v) + 0 = av_askZ V l
    rw [Int.add_zero, p4]
    exact (if_pos e).symm
  · rw [if_neg e] at p6
    have ne : cls ≠ [] := fun w => e (by rw [hl, w]; rfl)
    rw [hl] at p7
    have ea : av_askZ V l = rk_ansZ (rk_runZ V cls 0) := by
      rw [hl]
      exact rk_askZ hw ne
    refine hseg _ _ _ _ _ r M _ _ _ _ _ c2 ⟨pt_m0, pt_m1 ⟨by show (1 : Int) ≤ r (369 + v); omega, by show r (369 + v) ≤ 1; omega⟩, pt_m0⟩ ⟨fun _ => ?_, trivial⟩
    obtain ⟨r2, hr2⟩ : ∃ r2, r2 = pt_up r [(419, gz_p 728), (419 + 1, gz_p 729), (419 + 2, gz_p 730), (419 + 3, gz_p (149 + v)), (419 + 4, gz_p (145 + v)), (731, gz_k 0), (732, gz_k 0)] := ⟨_, rfl⟩
    show P (68, 0, 0) (ro_hZ v) [] (pt_up r [(419, gz_p 728), (419 + 1, gz_p 729), (419 + 2, gz_p 730), (419 + 3, gz_p (149 + v)), (419 + 4, gz_p (145 + v)), (731, gz_k 0), (732, gz_k 0)]) M
    rw [← hr2]
    have v2 : ∀ t, r2 t = if t = 419 then r 728 else if t = 419 + 1 then r 729 else if t = 419 + 2 then r 730 else if t = 419 + 3 then r (149 + v) else if t = 419 + 4 then r (145 + v) else if t = 731 then 0 else if t = 732 then 0 else r t := fun t => by
      rw [hr2]
      rfl
    refine ro_loopZ (r0 := r2) (M0 := M) (V := V) h hn hv hw p7 (fun k hk => ?_) (fun r3 M3 a ea2 f3 g3 => ⟨congrArg some (ea2.trans ea.symm), fun t a b => ?_, g3⟩) cls [] 0 r2 M rfl rfl ⟨by rw [v2, if_neg (by omega), if_neg (by omega), if_neg (by omega), if_neg (by omega), if_neg (by omega), if_pos rfl], by rw [v2, if_neg (by omega), if_neg (by omega), if_neg (by omega), if_neg (by omega), if_neg (by omega), if_neg (by omega), if_pos rfl]; rfl⟩ (fun _ _ => rfl) (fun _ _ => rfl)
    · rw [v2]
      rcases (by omega : k = 0 ∨ k = 1 ∨ k = 2 ∨ k = 3 ∨ k = 4) with rfl | rfl | rfl | rfl | rfl
      · rw [if_pos rfl]
        exact p1
      · rw [if_neg (by omega), if_pos rfl]
        exact p2
      · rw [if_neg (by omega), if_neg (by omega), if_pos rfl]
        exact p3
      · rw [if_neg (by omega), if_neg (by omega), if_neg (by omega), if_pos rfl]
        exact p4
      · rw [if_neg (by omega), if_neg (by omega), if_neg (by omega), if_neg (by omega), if_pos rfl]
        exact p5
    · rw [f3 t a, v2, if_neg (by omega), if_neg (by omega), if_neg (by omega), if_neg (by omega), if_neg (by omega), if_neg (by omega), if_neg (by omega)]
