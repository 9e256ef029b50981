/-! ASKED: all codes of an offer -/
noncomputable def av_run (V : Nat → Int) : List Int → Int → List Int → Option Int
  | [], s, _ => some s
  | c :: l, s, st => if c = -16 then (match st with
    | x :: t => if x = 0 then none else av_run V l s t
    | [] => none) else if c = -15 then (match st with
    | x :: t => av_run V l (ai_op 0 s x) t
    | [] => none) else av_run V l s (ak_st V c st)
noncomputable def av_dn (c : Int) (d : Nat) : Nat := if -5 ≤ c then d + 1 else if c = -12 then d else d - 1
noncomputable def av_ok : List Int → Nat → Prop
  | [], _ => True
  | c :: l, d => if c = -16 ∨ c = -15 then 1 ≤ d ∧ av_ok l (d - 1) else ak_ok1 c d ∧ av_ok l (av_dn c d)
theorem av_ok_c {c : Int} {l : List Int} {d : Nat} : av_ok (c :: l) d = if c = -16 ∨ c = -15 then 1 ≤ d ∧ av_ok l (d - 1) else ak_ok1 c d ∧ av_ok l (av_dn c d) := rfl
noncomputable def av_cap (s : Int) : Int := ai_op 11 0 (ai_op 12 9999 s)
noncomputable def av_ask (V : Nat → Int) (l : List Int) : Int := if l = [] then V 3 else match av_run V l 0 [] with
  | none => -1
  | some s => av_cap s
theorem av_len {V : Nat → Int} {c : Int} {st : List Int} (ok : ak_ok1 c st.length) : (ak_st V c st).length = av_dn c st.length := by
  unfold ak_ok1 at ok
  unfold ak_st av_dn
  by_cases a1 : 0 ≤ c
  · rw [if_pos a1, if_pos (by omega)]
    rfl
  · rw [if_neg a1]
    by_cases a2 : -5 ≤ c
    · rw [if_pos a2, if_pos a2]
      rfl
    · rw [if_neg a2, if_neg a2]
      rw [if_neg a2] at ok
      by_cases a3 : c = -12
      · rw [if_pos a3, if_pos a3]
        rw [if_pos a3] at ok
        rcases st with _ | ⟨x, st⟩
        · exact absurd ok (Nat.not_succ_le_zero 0)
        · rfl
      · rw [if_neg a3, if_neg a3]
        rw [if_neg a3] at ok
        rcases st with _ | ⟨y, _ | ⟨x, st⟩⟩
        · exact absurd ok.2 (Nat.not_succ_le_zero 1)
        · exact absurd ok.2 (by show ¬ 2 ≤ 1; omega)
        · rfl
theorem av_dn_le {c : Int} {d : Nat} (h : d ≤ 48) (ok : ak_ok1 c d) : av_dn c d ≤ 48 := by
  unfold ak_ok1 at ok
  unfold av_dn
  by_cases a2 : -5 ≤ c
  · rw [if_pos a2] at ok ⊢
    exact ok
  · rw [if_neg a2]
    split
    · exact h
    · omega
/-- a clause's codes, then the rest -/
theorem av_ok_dp {rest : List Int} : ∀ {m : List Int} {d d1 : Nat}, (∀ c ∈ m, -15 < c) → ps_dp 31 m d = some d1 → av_ok rest d1 → av_ok (m ++ rest) d
  | [], d, d1, _, h, g => by
    have h : some d = some d1 := h
    cases h
    exact g
  | c :: m, d, d1, hm, h, g => by
    have hc := hm c List.mem_cons_self
    have hm' : ∀ z ∈ m, -15 < z := fun z hz => hm z (List.mem_cons_of_mem _ hz)
    rw [List.cons_append, av_ok_c, if_neg (by omega)]
    rw [ps_dp_c] at h
    unfold ak_ok1 av_dn
    by_cases a : -5 ≤ c
    · rw [if_pos a] at h
      rw [if_pos a, if_pos a]
      by_cases b : d < 31
      · rw [if_pos b] at h
        exact ⟨by omega, av_ok_dp hm' h g⟩
      · rw [if_neg b] at h
        cases h
    · rw [if_neg a] at h
      rw [if_neg a, if_neg a]
      by_cases b : c = -12
      · rw [if_pos b] at h
        rw [if_pos b, if_pos b]
        by_cases x : 1 ≤ d
        · rw [if_pos x] at h
          exact ⟨x, av_ok_dp hm' h g⟩
        · rw [if_neg x] at h
          cases h
      · rw [if_neg b] at h
        rw [if_neg b, if_neg b]
        by_cases x : -14 ≤ c
        · rw [if_pos x] at h
          by_cases y : 2 ≤ d
          · rw [if_pos y] at h
            refine ⟨⟨?_, y⟩, av_ok_dp hm' h g⟩
            simp only [ak_ops, List.mem_cons, List.not_mem_nil, or_false]
            omega
          · rw [if_neg y] at h
            cases h
        · rw [if_neg x] at h
          cases h
theorem av_gc {l : List Int} (h : ps_gc l) : av_ok l 0 := by
  obtain ⟨cls, rfl, h⟩ := h
  induction cls with
  | nil => trivial
  | cons q cls ih =>
    obtain ⟨h1, h2, h3⟩ := h q List.mem_cons_self
    have g := ih (fun z hz => h z (List.mem_cons_of_mem _ hz))
    show av_ok ((q.1 ++ [q.2]) ++ ps_jn cls) 0
    rw [List.append_assoc]
    refine av_ok_dp h2 h3 ?_
    show av_ok (q.2 :: ps_jn cls) 1
    rw [av_ok_c, if_pos (by omega)]
    exact ⟨Nat.le_refl 1, g⟩
