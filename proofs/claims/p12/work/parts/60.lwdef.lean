/-! THE LAW: the head of its loop; a state behind a call is within a head's; mills in their order -/
noncomputable def lx_L : List ai_V := [.inr (.inr (some (some 0))), .inr (.inr (some (some 16))), .inr (.inr (some (some 264))), .inr (.inr (some (some 335))), .inl (1, 0), .inr (.inr none), .inr (.inr none)]
noncomputable def lx_w : List (Int × Int) := [(0, 63)]
/-- numbers of its own behind the world's -/
noncomputable def lx_nx : Nat → List (Int × Int)
  | 0 => []
  | 1 => lx_w
  | _ => [rn_b, rn_b]
noncomputable def lx_nn : Nat → Nat
  | 0 => 380
  | 1 => 381
  | _ => 382
noncomputable def lx_G (v j : Nat) : ai_G := (lx_El v j, lx_h, 0, 0)
theorem lx_q0_0 : lx_E0_0 = sm_E (1, [], []) (lx_nb0 ++ lx_nx 0) ∧ (lx_nb0 ++ lx_nx 0).length = lx_nn 0 ∧ lx_E0_0.1 = lx_nn 0 + 1 := ⟨Prod.ext (by decide +kernel) (Prod.ext (by decide +kernel) rfl), by decide +kernel, by decide +kernel⟩
theorem lx_q0_1 : lx_E0_1 = sm_E (1, [], []) (lx_nb0 ++ lx_nx 1) ∧ (lx_nb0 ++ lx_nx 1).length = lx_nn 1 ∧ lx_E0_1.1 = lx_nn 1 + 1 := ⟨Prod.ext (by decide +kernel) (Prod.ext (by decide +kernel) rfl), by decide +kernel, by decide +kernel⟩
theorem lx_q0_2 : lx_E0_2 = sm_E (1, [], []) (lx_nb0 ++ lx_nx 2) ∧ (lx_nb0 ++ lx_nx 2).length = lx_nn 2 ∧ lx_E0_2.1 = lx_nn 2 + 1 := ⟨Prod.ext (by decide +kernel) (Prod.ext (by decide +kernel) rfl), by decide +kernel, by decide +kernel⟩
theorem lx_q1_0 : lx_E1_0 = sm_E (1, [], []) (lx_nb1 ++ lx_nx 0) ∧ (lx_nb1 ++ lx_nx 0).length = lx_nn 0 ∧ lx_E1_0.1 = lx_nn 0 + 1 := ⟨Prod.ext (by decide +kernel) (Prod.ext (by decide +kernel) rfl), by decide +kernel, by decide +kernel⟩
theorem lx_q1_1 : lx_E1_1 = sm_E (1, [], []) (lx_nb1 ++ lx_nx 1) ∧ (lx_nb1 ++ lx_nx 1).length = lx_nn 1 ∧ lx_E1_1.1 = lx_nn 1 + 1 := ⟨Prod.ext (by decide +kernel) (Prod.ext (by decide +kernel) rfl), by decide +kernel, by decide +kernel⟩
theorem lx_q1_2 : lx_E1_2 = sm_E (1, [], []) (lx_nb1 ++ lx_nx 2) ∧ (lx_nb1 ++ lx_nx 2).length = lx_nn 2 ∧ lx_E1_2.1 = lx_nn 2 + 1 := ⟨Prod.ext (by decide +kernel) (Prod.ext (by decide +kernel) rfl), by decide +kernel, by decide +kernel⟩
theorem lx_q2_0 : lx_E2_0 = sm_E (1, [], []) (lx_nb2 ++ lx_nx 0) ∧ (lx_nb2 ++ lx_nx 0).length = lx_nn 0 ∧ lx_E2_0.1 = lx_nn 0 + 1 := ⟨Prod.ext (by decide +kernel) (Prod.ext (by decide +kernel) rfl), by decide +kernel, by decide +kernel⟩
theorem lx_q2_1 : lx_E2_1 = sm_E (1, [], []) (lx_nb2 ++ lx_nx 1) ∧ (lx_nb2 ++ lx_nx 1).length = lx_nn 1 ∧ lx_E2_1.1 = lx_nn 1 + 1 := ⟨Prod.ext (by decide +kernel) (Prod.ext (by decide +kernel) rfl), by decide +kernel, by decide +kernel⟩
theorem lx_q2_2 : lx_E2_2 = sm_E (1, [], []) (lx_nb2 ++ lx_nx 2) ∧ (lx_nb2 ++ lx_nx 2).length = lx_nn 2 ∧ lx_E2_2.1 = lx_nn 2 + 1 := ⟨Prod.ext (by decide +kernel) (Prod.ext (by decide +kernel) rfl), by decide +kernel, by decide +kernel⟩
theorem lx_q3_0 : lx_E3_0 = sm_E (1, [], []) (lx_nb3 ++ lx_nx 0) ∧ (lx_nb3 ++ lx_nx 0).length = lx_nn 0 ∧ lx_E3_0.1 = lx_nn 0 + 1 := ⟨Prod.ext (by decide +kernel) (Prod.ext (by decide +kernel) rfl), by decide +kernel, by decide +kernel⟩
theorem lx_q3_1 : lx_E3_1 = sm_E (1, [], []) (lx_nb3 ++ lx_nx 1) ∧ (lx_nb3 ++ lx_nx 1).length = lx_nn 1 ∧ lx_E3_1.1 = lx_nn 1 + 1 := ⟨Prod.ext (by decide +kernel) (Prod.ext (by decide +kernel) rfl), by decide +kernel, by decide +kernel⟩
theorem lx_q3_2 : lx_E3_2 = sm_E (1, [], []) (lx_nb3 ++ lx_nx 2) ∧ (lx_nb3 ++ lx_nx 2).length = lx_nn 2 ∧ lx_E3_2.1 = lx_nn 2 + 1 := ⟨Prod.ext (by decide +kernel) (Prod.ext (by decide +kernel) rfl), by decide +kernel, by decide +kernel⟩
theorem lx_q4_0 : lx_E4_0 = sm_E (1, [], []) (lx_nb4 ++ lx_nx 0) ∧ (lx_nb4 ++ lx_nx 0).length = lx_nn 0 ∧ lx_E4_0.1 = lx_nn 0 + 1 := ⟨Prod.ext (by decide +kernel) (Prod.ext (by decide +kernel) rfl), by decide +kernel, by decide +kernel⟩
theorem lx_q4_1 : lx_E4_1 = sm_E (1, [], []) (lx_nb4 ++ lx_nx 1) ∧ (lx_nb4 ++ lx_nx 1).length = lx_nn 1 ∧ lx_E4_1.1 = lx_nn 1 + 1 := ⟨Prod.ext (by decide +kernel) (Prod.ext (by decide +kernel) rfl), by decide +kernel, by decide +kernel⟩
theorem lx_q4_2 : lx_E4_2 = sm_E (1, [], []) (lx_nb4 ++ lx_nx 2) ∧ (lx_nb4 ++ lx_nx 2).length = lx_nn 2 ∧ lx_E4_2.1 = lx_nn 2 + 1 := ⟨Prod.ext (by decide +kernel) (Prod.ext (by decide +kernel) rfl), by decide +kernel, by decide +kernel⟩
theorem lx_El_eq : ∀ v j, lx_El v j = sm_E (1, [], []) (lx_nb v ++ lx_nx j) ∧ (lx_nb v ++ lx_nx j).length = lx_nn j ∧ (lx_El v j).1 = lx_nn j + 1 := fun v j => match v, j with
  | 0, 0 => lx_q0_0
  | 0, 1 => lx_q0_1
  | 0, _ + 2 => lx_q0_2
  | 1, 0 => lx_q1_0
  | 1, 1 => lx_q1_1
  | 1, _ + 2 => lx_q1_2
  | 2, 0 => lx_q2_0
  | 2, 1 => lx_q2_1
  | 2, _ + 2 => lx_q2_2
  | 3, 0 => lx_q3_0
  | 3, 1 => lx_q3_1
  | 3, _ + 2 => lx_q3_2
  | _ + 4, 0 => lx_q4_0
  | _ + 4, 1 => lx_q4_1
  | _ + 4, _ + 2 => lx_q4_2
noncomputable def lx_sub (v j : Nat) (L' S' L S : List ai_V) (G : ai_G) (o : List (Nat × ai_X)) : Bool := match fz_in 1 L S G L' S' (lx_El v j, lx_h, G.2.2.1, G.2.2.2) with
  | some y => (fz_cov y 1 (lx_nn j) && (L'.all (sm_wv (lx_El v j).1 336) && (S'.all (sm_wv (lx_El v j).1 336) && xs_wh (lx_El v j).1 lx_h))) && o.all (fun q => decide (ai_ylook y q.1 = some q.2))
  | none => false
theorem lx_sub_eq {v j : Nat} {L' S' L S : List ai_V} {G : ai_G} {o : List (Nat × ai_X)} : lx_sub v j L' S' L S G o = hw_subY (1, [], []) (lx_nb v ++ lx_nx j) lx_h L' S' L S G o := by
  obtain ⟨e1, e2, e3⟩ := lx_El_eq v j
  have e4 : (1 : Nat) + (lx_nb v ++ lx_nx j).length = (lx_El v j).1 := by
    rw [e2, e3]
    exact Nat.add_comm _ _
  have e5 : lx_h.1 = 336 := rfl
  unfold lx_sub hw_subY
  simp only [fz_in_eq, xs_wh_eq, fz_cov_eq, xt_in_eq]
  show (match ai_in 1 L S G L' S' (lx_El v j, lx_h, G.2.2.1, G.2.2.2) with | some y => _ | none => _) = (match ai_in 1 L S G L' S' (sm_E (1, [], []) (lx_nb v ++ lx_nx j), lx_h, G.2.2.1, G.2.2.2) with | some y => _ | none => _)
  rw [← e1, e2, e5]
  have e6 : (1 : Nat) + lx_nn j = (lx_El v j).1 := by rw [← e2]; exact e4
  cases ai_in 1 L S G L' S' (lx_El v j, lx_h, G.2.2.1, G.2.2.2) with
  | none => rfl
  | some y =>
    show _ = ((ai_cov y 1 (lx_nn j) && (L'.all (sm_wv (1 + lx_nn j) 336) && (S'.all (sm_wv (1 + lx_nn j) 336) && sm_wh (1 + lx_nn j) lx_h))) && _)
    rw [e6]
noncomputable def lx_n0 (o : List (Nat × ai_X)) : List (Nat × ai_X) := o.filter (fun q => !(Nat.beq q.1 0 && cx_q q.2 (0, 0)))
theorem lx_n0_ok {o : List (Nat × ai_X)} {r r2 : Nat → Int} (h0 : r 0 = 0) (h2 : r2 0 = 0) (h : ∀ q ∈ lx_n0 o, r2 q.1 = ai_vx r q.2) : ∀ q ∈ o, r2 q.1 = ai_vx r q.2 := fun q hq => by
  by_cases e : (Nat.beq q.1 0 && cx_q q.2 (0, 0)) = true
  · rw [Bool.and_eq_true] at e
    rw [Nat.eq_of_beq_eq_true e.1, cx_q_ok e.2, h2]
    show (0 : Int) = r 0 + 0
    rw [h0]
    rfl
  · exact h q (List.mem_filter.mpr ⟨hq, by rw [Bool.not_eq_true] at e; rw [e]; rfl⟩)
noncomputable def lx_to (v j : Nat) (S' : List ai_V) (pc : Nat) (o : List (Nat × ai_X)) (f : ai_F) : Bool := Nat.beq f.1 pc && (Nat.beq f.2.2.2.2.1.1 336 && (Nat.ble f.2.2.2.2.2.1 1 && (Nat.ble f.2.2.2.2.2.2 6 && lx_sub v j lx_L S' f.2.1 f.2.2.1 f.2.2.2 (lx_n0 o))))
noncomputable def lx_o : List (Nat × ai_X) := ((1, (1, 10)) :: (73, (73, 0)) :: lx_jo)
noncomputable def lx_ck (T : List (Nat × us_C)) (w v : Nat) : Bool := match lx_run T [23] 16 [] false 40 lx_L [.inl (0, .ofNat w)] (hg_cap (lx_G v 1) 1 (0, 5110)) with
  | some fs => fs.all (lx_to v 0 [] 23 lx_o)
  | none => false
noncomputable def lx_K (w v : Nat) : Prop := ∃ T, lt_all 60 T ∧ lx_ck T w v = true
section LT
variable {s : State} {D : va_G} {tyc : Nat → ClassId} {A : Nat → Prop} {sa : ai_B} {ws : va_W} {nL : Nat} {r : Nat → Int} {ad : Nat → Nat} {L S S' : List ai_V} {G : ai_G} {H : Heap} {locs : List Loc} {ls : Array Slot} {st : List Value} {v j pc : Nat} {o : List (Nat × ai_X)}
theorem lx_rc {c1 s1 c2 s2 : Nat} {E : ai_E} {h : ai_H} (hR : ai_Rel D tyc A s sa ws nL r ad L S (E, h, c1, s1) H locs ls st) : ai_Rel D tyc A s sa ws nL r ad L S (E, h, c2, s2) H locs ls st := hR
theorem lx_to_ok {f : ai_F} (h : lx_to v j S' pc o f = true) (hR : ai_Rel D tyc A s sa ws nL r ad f.2.1 f.2.2.1 f.2.2.2 H locs ls st) : f.1 = pc ∧ f.2.2.2.2.2.1 ≤ 1 ∧ f.2.2.2.2.2.2 ≤ 6 ∧ ∃ r2, ai_Rel D tyc A s sa ws nL r2 ad lx_L S' (lx_G v j) H locs ls st ∧ ∀ q ∈ o, r2 q.1 = ai_vx r q.2 := by
  unfold lx_to at h
  simp only [Bool.and_eq_true] at h
  obtain ⟨h1, h2, h3, h4, h5⟩ := h
  rw [lx_sub_eq] at h5
  have hE := hR.env
  have hE0 : ai_gE r (1, [], []) := ⟨hE.1, Nat.succ_pos _, fun t ht => hE.2.2.1 t (Nat.lt_of_lt_of_le ht hE.2.1), fun q hq => (by cases hq), fun q hq => (by cases hq)⟩
  obtain ⟨r2, a1, a2, a3⟩ := hw_okY hE0 rfl ai_ext.rfl' hE.2.1 hR h5
  rw [← (lx_El_eq v j).1] at a2
  exact ⟨Nat.eq_of_beq_eq_true h1, Nat.le_of_ble_eq_true h3, Nat.le_of_ble_eq_true h4, r2, a2, lx_n0_ok hE.1 a2.env.1 a3⟩
end LT
theorem lx_so_ok {r : Nat → Int} {N : Nat} {lo hi : Int} {l l' : List (ai_X × ai_X)} {g : Nat → Int} (h0 : r 0 = 0) (hN : 0 < N) (h : lx_so l = some l') (hg : ai_gK r N lo hi l 4 g) : ai_gK r N lo hi l' 4 g := by
  unfold lx_so at h
  split at h
  · cases h
  · rename_i hall
    have hl : ∀ q ∈ l, q.1.1 = 0 := fun q hq => Nat.eq_of_beq_eq_true (List.all_eq_true.mp hall q hq)
    split at h
    · cases h
    · rename_i a ea
      split at h
      · cases h
      · rename_i b eb
        split at h
        · cases h
        · rename_i c ec
          split at h
          · cases h
          · rename_i d ed
            cases h
            obtain ⟨hw, ho⟩ := hg
            have va := lx_ov (j := 0) h0 hl ea (ho 0 (by omega))
            have vb := lx_ov (j := 1) h0 hl eb (ho 1 (by omega))
            have vc := lx_ov (j := 2) h0 hl ec (ho 2 (by omega))
            have vd := lx_ov (j := 3) h0 hl ed (ho 3 (by omega))
            have ma := List.mem_of_find?_eq_some ea
            have mb := List.mem_of_find?_eq_some eb
            have mc := List.mem_of_find?_eq_some ec
            have md := List.mem_of_find?_eq_some ed
            have z : ∀ k : Nat, ai_vx r (0, Int.ofNat k) = (k : Int) := fun k => by
              show r 0 + (k : Int) = k
              rw [h0]
              exact Int.zero_add _
            refine ⟨fun q hq => ?_, fun j hj => ?_⟩
            · simp only [List.mem_cons, List.not_mem_nil, or_false] at hq
              rcases hq with rfl | rfl | rfl | rfl
              · exact ⟨hN, (hw _ ma).2⟩
              · exact ⟨hN, (hw _ mb).2⟩
              · exact ⟨hN, (hw _ mc).2⟩
              · exact ⟨hN, (hw _ md).2⟩
            · refine ⟨fun e => ?_, fun n0 => ⟨fun e => ?_, fun n1 => ⟨fun e => ?_, fun n2 => ⟨fun e => ?_, fun n3 => ?_⟩⟩⟩⟩
              · rw [z] at e
                have : j = 0 := by omega
                rw [this]
                exact va
              · rw [z] at e
                have : j = 1 := by omega
                rw [this]
                exact vb
              · rw [z] at e
                have : j = 2 := by omega
                rw [this]
                exact vc
              · rw [z] at e
                have : j = 3 := by omega
                rw [this]
                exact vd
              · rw [z] at n0 n1 n2 n3
                omega
noncomputable def lx_s1 (q : Nat) (G : ai_G) : Option ai_G := match ai_cell G.2.1 q with
  | some (.inr (.inl (ty, n, lo, hi, l))) => match Nat.beq n 4 with
    | true => match lx_so l with
      | some l' => some (G.1, (G.2.1.1, ai_tset 9 G.2.1.2 q (some (.inr (.inl (ty, 4, lo, hi, l'))))), G.2.2)
      | none => none
    | false => none
  | _ => none
theorem lx_s1_ok {s : State} {D : va_G} {tyc : Nat → ClassId} {A : Nat → Prop} {sa : ai_B} {ws : va_W} {nL : Nat} {r : Nat → Int} {ad : Nat → Nat} {L S : List ai_V} {G G' : ai_G} {H : Heap} {locs : List Loc} {ls : Array Slot} {st : List Value} {q : Nat} (hq : 16 ≤ q) (hq2 : q < 512) (h : lx_s1 q G = some G') (hR : ai_Rel D tyc A s sa ws nL r ad L S G H locs ls st) : ai_Rel D tyc A s sa ws nL r ad L S G' H locs ls st := by
  unfold lx_s1 at h
  split at h
  · rename_i ty n lo hi l hc
    split at h
    · rename_i hn
      have hn := Nat.eq_of_beq_eq_true hn
      subst hn
      split at h
      · rename_i l' hl'
        cases h
        have hE := hR.env
        refine lx_cell hR hq hq2 hc (fun e he => ?_)
        rcases he with ⟨h1, f, h2, h3⟩ | ⟨h1, f, h2, h3⟩
        · exact Or.inl ⟨h1, f, h2, lx_so_ok hE.1 hE.2.1 hl' h3⟩
        · exact Or.inr ⟨h1, f, h2, lx_so_ok hE.1 hE.2.1 hl' h3⟩
      · cases h
    · cases h
  · cases h
noncomputable def lx_srt (G : ai_G) : Option ai_G := match lx_s1 271 G with
  | some G' => lx_s1 275 G'
  | none => none
