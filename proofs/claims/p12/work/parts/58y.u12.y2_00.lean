/-! ASKED (the reference): clause by clause -/
abbrev rk_wf (cls : List (List Int × Int)) : Prop := ∀ q ∈ cls, (q.2 = -15 ∨ q.2 = -16) ∧ (∀ c ∈ q.1, -15 < c) ∧ ps_dp 31 q.1 0 = some 1
noncomputable def rk_run (V : Nat → Int) : List (List Int × Int) → Int → Option Int
  | [], s => some s
  | q :: t, s => if q.2 = -15 then rk_run V t (ai_op 0 s ((av_sts V q.1 []).getD 0 0)) else if (av_sts V q.1 []).getD 0 0 = 0 then none else rk_run V t s
theorem av_run_m {V : Nat → Int} {s : Int} {rest : List Int} : ∀ {m st : List Int}, (∀ c ∈ m, -15 < c) → av_run V (m ++ rest) s st = av_run V rest s (av_sts V m st)
  | [], _, _ => rfl
  | c :: m, st, h => by
    have hc := h c List.mem_cons_self
    show (if c = -16 then _ else if c = -15 then _ else av_run V (m ++ rest) s (ak_st V c st)) = _
    rw [if_neg (by omega), if_neg (by omega)]
    exact av_run_m (fun z hz => h z (List.mem_cons_of_mem _ hz))
theorem av_sts_len {V : Nat → Int} : ∀ {m st : List Int} {d1 : Nat}, ps_dp 31 m st.length = some d1 → (av_sts V m st).length = d1
  | [], _, _, h => Option.some.inj h
  | c :: m, st, d1, h => by
    rw [ps_dp_c] at h
    show (av_sts V m (ak_st V c st)).length = d1
    by_cases a : -5 ≤ c
    · rw [if_pos a] at h
      by_cases b : st.length < 31
      · rw [if_pos b] at h
        have e := av_len (V := V) (c := c) (st := st) (by
          unfold ak_ok1
          rw [if_pos a]
          omega)
        exact av_sts_len (by rw [e, show av_dn c st.length = st.length + 1 from if_pos a]; exact h)
      · rw [if_neg b] at h
        cases h
    · rw [if_neg a] at h
      by_cases b : c = -12
      · rw [if_pos b] at h
        by_cases x : 1 ≤ st.length
        · rw [if_pos x] at h
          have e := av_len (V := V) (c := c) (st := st) (by
            unfold ak_ok1
            rw [if_neg a, if_pos b]
            exact x)
          exact av_sts_len (by rw [e, show av_dn c st.length = st.length from (if_neg a).trans (if_pos b)]; exact h)
        · rw [if_neg x] at h
          cases h
      · rw [if_neg b] at h
        by_cases x14 : -14 ≤ c
        · rw [if_pos x14] at h
          by_cases x : 2 ≤ st.length
          · rw [if_pos x] at h
            have e := av_len (V := V) (c := c) (st := st) (by
              unfold ak_ok1
              rw [if_neg a, if_neg b]
              refine ⟨?_, x⟩
              simp only [ak_ops, List.mem_cons, List.not_mem_nil, or_false]
              omega)
            exact av_sts_len (by rw [e, show av_dn c st.length = st.length - 1 from (if_neg a).trans (if_neg b)]; exact h)
          · rw [if_neg x] at h
            cases h
        · rw [if_neg x14] at h
          cases h
theorem rk_jn {q : List Int × Int} {cls : List (List Int × Int)} : ps_jn (q :: cls) = q.1 ++ (q.2 :: ps_jn cls) := by
  show (q.1 ++ [q.2]) ++ ps_jn cls = _
  rw [List.append_assoc]
  rfl
/-- the codes in a row are the clauses in a row -/
theorem rk_eq {V : Nat → Int} : ∀ {cls : List (List Int × Int)} {s : Int}, rk_wf cls → av_run V (ps_jn cls) s [] = rk_run V cls s
  | [], _, _ => rfl
  | q :: cls, s, h => by
    obtain ⟨h1, h2, h3⟩ := h q List.mem_cons_self
    rw [rk_jn, av_run_m h2]
    obtain ⟨x, hx⟩ : ∃ x, av_sts V q.1 [] = [x] := by
      have l := av_sts_len (V := V) (st := []) h3
      rcases e : av_sts V q.1 [] with _ | ⟨x, _ | ⟨y, t⟩⟩
      · rw [e] at l
        exact absurd l (Nat.succ_ne_zero 0).symm
      · exact ⟨x, rfl⟩
      · rw [e, List.length_cons, List.length_cons] at l
        omega
    have ih : ∀ s, av_run V (ps_jn cls) s [] = rk_run V cls s := fun s => rk_eq (fun z hz => h z (List.mem_cons_of_mem _ hz))
    rw [hx]
    have er : rk_run V (q :: cls) s = if q.2 = -15 then rk_run V cls (ai_op 0 s ((av_sts V q.1 []).getD 0 0)) else if (av_sts V q.1 []).getD 0 0 = 0 then none else rk_run V cls s := rfl
    rw [er, hx]
    show (if q.2 = -16 then (if x = 0 then none else av_run V (ps_jn cls) s []) else if q.2 = -15 then av_run V (ps_jn cls) (ai_op 0 s x) [] else _) = if q.2 = -15 then rk_run V cls (ai_op 0 s x) else if x = 0 then none else rk_run V cls s
    rcases h1 with w | w
    · rw [if_neg (by omega), if_pos w, if_pos w]
      exact ih _
    · rw [if_pos w, ih, if_neg (show ¬ q.2 = -15 by omega)]
noncomputable def rk_ans : Option Int → Int
  | none => -1
  | some s => av_cap s
theorem rk_ask {V : Nat → Int} {cls : List (List Int × Int)} (h : rk_wf cls) (hne : cls ≠ []) : av_ask V (ps_jn cls) = rk_ans (rk_run V cls 0) := by
  have ne : ps_jn cls ≠ [] := by
    rcases cls with _ | ⟨q, cls⟩
    · exact absurd rfl hne
    · rw [rk_jn]
      exact List.append_ne_nil_of_right_ne_nil _ (List.cons_ne_nil _ _)
  unfold av_ask
  rw [if_neg ne, rk_eq h]
  rcases rk_run V cls 0 with _ | s <;> rfl
theorem av_cap_b {s : Int} : 0 ≤ av_cap s ∧ av_cap s ≤ 9999 := by
  show 0 ≤ ai_max 0 (ai_min 9999 s) ∧ ai_max 0 (ai_min 9999 s) ≤ 9999
  have m1 : ai_min 9999 s ≤ 9999 := by
    unfold ai_min
    cases e : ai_le 9999 s with
    | true => exact Int.le_refl _
    | false =>
      have : ¬ (9999 ≤ s) := fun w => by
        rw [ai_le_iff.mpr w] at e
        cases e
      show s ≤ 9999
      omega
  unfold ai_max
  cases e : ai_le 0 (ai_min 9999 s) with
  | true => exact ⟨ai_le_iff.mp e, m1⟩
  | false => exact ⟨Int.le_refl _, (by decide : (0 : Int) ≤ 9999)⟩
theorem av_ask_b {V : Nat → Int} {l : List Int} (h : 0 ≤ V 3 ∧ V 3 ≤ 999) : av_ask V l = -1 ∨ (0 ≤ av_ask V l ∧ av_ask V l ≤ 9999) := by
  unfold av_ask
  split
  · exact Or.inr ⟨h.1, by omega⟩
  · split
    · exact Or.inl rfl
    · exact Or.inr av_cap_b
theorem gb_gl {m : List Int} : ∀ {l : List Int} {x : Nat}, x < l.length → (l ++ m).getD x 0 = l.getD x 0
  | [], x, h => absurd h (Nat.not_lt_zero x)
  | _ :: _, 0, _ => rfl
  | _ :: l, _ + 1, h => gb_gl (l := l) (Nat.lt_of_succ_lt_succ h)
theorem gb_l2 : ∀ l : List Int, (gb_cs l).length ≤ 2 * l.length
  | [] => Nat.le_refl _
  | c :: l => by
    rw [gb_cs_c, List.length_append, List.length_cons]
    have ih := gb_l2 l
    have : (gb_enc c).length ≤ 2 := by
      unfold gb_enc
      split
      · exact Nat.le_refl 2
      · split
        · exact Nat.le_succ 1
        · split
          · exact Nat.le_succ 1
          · split
            · exact Nat.le_succ 1
            · split
              · exact Nat.le_succ 1
              · split
                · exact Nat.le_succ 1
                · exact Nat.zero_le 2
    omega
theorem gb_jc {q : List Int × Int} {cls : List (List Int × Int)} (h1 : q.2 = -15 ∨ q.2 = -16) : gb_cs (ps_jn (q :: cls)) = gb_cs q.1 ++ gb_cs (ps_jn cls) := by
  rw [rk_jn]
  unfold gb_cs
  rw [List.flatMap_append, List.flatMap_cons, gb_enc_h h1]
  rfl
theorem gb_jt {q : List Int × Int} {cls : List (List Int × Int)} {s : Nat} (h1 : q.2 = -15 ∨ q.2 = -16) (h2 : ∀ c ∈ q.1, -15 < c) : gb_tb (ps_jn (q :: cls)) s s = (-15 - q.2, s, s + (gb_cs q.1).length) :: gb_tb (ps_jn cls) (s + (gb_cs q.1).length) (s + (gb_cs q.1).length) := by
  obtain ⟨n1, n2⟩ := gb_tb_n (m := q.1) (s := s) (e := s) h2
  rw [rk_jn, gb_tb_a.1, n1, n2, List.nil_append, gb_tb_c, if_pos h1]
theorem gb_jl : ∀ {cls : List (List Int × Int)} {s : Nat}, rk_wf cls → (gb_tb (ps_jn cls) s s).length = cls.length
  | [], _, _ => rfl
  | q :: cls, s, h => by
    obtain ⟨h1, h2, -⟩ := h q List.mem_cons_self
    rw [gb_jt h1 h2, List.length_cons, List.length_cons, gb_jl (fun z hz => h z (List.mem_cons_of_mem _ hz))]
/-- a clause's place in the table, and its codes -/
theorem gb_jx : ∀ {pre : List (List Int × Int)} {q : List Int × Int} {rest : List (List Int × Int)} {s : Nat}, rk_wf (pre ++ q :: rest) → ((gb_tb (ps_jn (pre ++ q :: rest)) s s).getD pre.length (0, 0, 0) = (-15 - q.2, s + (gb_cs (ps_jn pre)).length, s + (gb_cs (ps_jn pre)).length + (gb_cs q.1).length) ∧ (gb_cs (ps_jn pre)).length + (gb_cs q.1).length ≤ (gb_cs (ps_jn (pre ++ q :: rest))).length) ∧ ∀ x, x < (gb_cs q.1).length → (gb_cs (ps_jn (pre ++ q :: rest))).getD ((gb_cs (ps_jn pre)).length + x) 0 = (gb_cs q.1).getD x 0
  | [], q, rest, s, h => by
    obtain ⟨h1, h2, -⟩ := h q List.mem_cons_self
    have z : (gb_cs (ps_jn ([] : List (List Int × Int)))).length = 0 := rfl
    rw [z, List.nil_append, List.length_nil]
    refine ⟨⟨?_, ?_⟩, fun x hx => ?_⟩
    · rw [gb_jt h1 h2]
      rfl
    · rw [gb_jc h1, List.length_append]
      omega
    · rw [gb_jc h1, Nat.zero_add, gb_gl hx]
  | p :: pre, q, rest, s, h => by
    obtain ⟨h1, h2, -⟩ := h p List.mem_cons_self
    obtain ⟨⟨g1, g2⟩, g3⟩ := gb_jx (pre := pre) (q := q) (rest := rest) (s := s + (gb_cs p.1).length) (fun z hz => h z (List.mem_cons_of_mem _ hz))
    have e : (gb_cs (ps_jn (p :: pre))).length = (gb_cs p.1).length + (gb_cs (ps_jn pre)).length := by rw [gb_jc h1, List.length_append]
    rw [e, List.cons_append, gb_jt h1 h2, gb_jc h1]
    refine ⟨⟨?_, ?_⟩, fun x hx => ?_⟩
    · show (gb_tb (ps_jn (pre ++ q :: rest)) (s + (gb_cs p.1).length) (s + (gb_cs p.1).length)).getD pre.length (0, 0, 0) = _
      rw [g1, Nat.add_assoc s (gb_cs p.1).length (gb_cs (ps_jn pre)).length]
    · rw [List.length_append]
      omega
    · rw [Nat.add_assoc, ps_gr]
      exact g3 x hx
