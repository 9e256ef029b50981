/-! THE LAW: copy of a part of a sheet; what is known of its numbers beforehand (printed by copy5.py) -/
noncomputable def lx_y0 : ai_G := hg_cap (lx_E5, lx_h, 0, 0) 1 (0, 5110)
noncomputable def lx_yP : List (Nat × Nat × Nat) := [(1, 0, 4), (106, 264, 1)]
theorem lx_ypc : lx_pc lx_yP = true := by decide +kernel
noncomputable def lx_ckN (rd : List (Int × ai_X)) (G : ai_G) : Bool := match lx_run [] [23] 16 rd false 40 lx_L [.inl (0, .ofNat 5)] G with
  | some fs => fs.all (lx_fin [] lx_yP [] 0 lx_o)
  | none => false
noncomputable def lx_yr1 : List (Int × ai_X) := [(1, (182, 0))]
noncomputable def lx_yr3 : List (Int × ai_X) := [(1, (182, 0)), (3, (183, 0))]
noncomputable def lx_yG1 : ai_G := hg_new lx_y0 (ai_lo32, -1)
noncomputable def lx_yG2 : ai_G := hk_df (hg_new lx_y0 (0, ai_hi32)) (32, 0, (110, 0), (182, 0))
noncomputable def lx_yG3 : ai_G := hk_df (hg_new (hg_new lx_y0 (0, 11)) (ai_lo32, -1)) (32, 0, (182, 1), (110, 0))
noncomputable def lx_yG4 : ai_G := hk_df (hk_df (hg_new (hg_new lx_y0 (0, 11)) (0, ai_hi32)) (32, 0, (182, 1), (110, 0))) (32, 0, (110, 0), (183, 0))
theorem lx_yN1 : lx_ckN lx_yr1 lx_yG1 = true := by decide +kernel
theorem lx_yN2 : lx_ckN lx_yr1 lx_yG2 = true := by decide +kernel
theorem lx_yN3 : lx_ckN lx_yr3 lx_yG3 = true := by decide +kernel
theorem lx_yN4 : lx_ckN lx_yr3 lx_yG4 = true := by decide +kernel
theorem lx_ymb : (110, ((0 : Int), (12 : Int))) ∈ lx_E5.2.1 := by decide +kernel
/-! arrays set aside -/
noncomputable def lx_qs : List Nat := [70, 71, 72, 73, 74, 75, 76, 77, 78, 79, 80, 81, 283, 284]
noncomputable def lx_qn (q : Nat) : Nat := match Nat.beq q 283 with
  | true => 144
  | false => 12
noncomputable def lx_dr : List Nat → ai_T (Option ai_C) 9 → ai_T (Option ai_C) 9
  | [], T => T
  | q :: l, T => lx_dr l (ai_tset 9 T q none)
noncomputable def lx_bak : List Nat → ai_T (Option ai_C) 9 → ai_T (Option ai_C) 9
  | [], T => T
  | q :: l, T => lx_bak l (ai_tset 9 T q (ai_cell lx_h q))
noncomputable def lx_hd : ai_H := (lx_h.1, lx_dr lx_qs lx_h.2)
theorem lx_dr_get : ∀ {l : List Nat} {T : ai_T (Option ai_C) 9} {k : Nat}, (∀ q ∈ l, q < 512) → k < 512 → (k ∈ l → ai_tget 9 (lx_dr l T) k = none) ∧ (¬ k ∈ l → ai_tget 9 (lx_dr l T) k = ai_tget 9 T k)
  | [], T, k, _, _ => ⟨fun h => (by cases h), fun _ => rfl⟩
  | q :: l, T, k, hl, hk => by
    have ih := lx_dr_get (l := l) (T := ai_tset 9 T q none) (k := k) (fun z hz => hl z (List.mem_cons_of_mem _ hz)) hk
    have g : ai_tget 9 (ai_tset 9 T q none) k = if k = q then none else ai_tget 9 T k := ai_tget_set none 9 T q k (hl q List.mem_cons_self) hk
    refine ⟨fun h => ?_, fun h => ?_⟩
    · show ai_tget 9 (lx_dr l (ai_tset 9 T q none)) k = none
      by_cases hkl : k ∈ l
      · exact ih.1 hkl
      · have e : k = q := by
          rcases List.mem_cons.mp h with h | h
          · exact h
          · exact absurd h hkl
        rw [ih.2 hkl, g, if_pos e]
    · show ai_tget 9 (lx_dr l (ai_tset 9 T q none)) k = _
      rw [ih.2 (fun z => h (List.mem_cons_of_mem _ z)), g, if_neg (fun e => h (by rw [e]; exact List.mem_cons_self))]
theorem lx_bak_get : ∀ {l : List Nat} {T : ai_T (Option ai_C) 9} {k : Nat}, (∀ q ∈ l, q < 512) → k < 512 → (k ∈ l → ai_tget 9 (lx_bak l T) k = ai_cell lx_h k) ∧ (¬ k ∈ l → ai_tget 9 (lx_bak l T) k = ai_tget 9 T k)
  | [], T, k, _, _ => ⟨fun h => (by cases h), fun _ => rfl⟩
  | q :: l, T, k, hl, hk => by
    have ih := lx_bak_get (l := l) (T := ai_tset 9 T q (ai_cell lx_h q)) (k := k) (fun z hz => hl z (List.mem_cons_of_mem _ hz)) hk
    have g : ai_tget 9 (ai_tset 9 T q (ai_cell lx_h q)) k = if k = q then ai_cell lx_h q else ai_tget 9 T k := ai_tget_set _ 9 T q k (hl q List.mem_cons_self) hk
    refine ⟨fun h => ?_, fun h => ?_⟩
    · show ai_tget 9 (lx_bak l (ai_tset 9 T q (ai_cell lx_h q))) k = _
      by_cases hkl : k ∈ l
      · exact ih.1 hkl
      · have e : k = q := by
          rcases List.mem_cons.mp h with h | h
          · exact h
          · exact absurd h hkl
        rw [ih.2 hkl, g, if_pos e, e]
    · show ai_tget 9 (lx_bak l (ai_tset 9 T q (ai_cell lx_h q))) k = _
      rw [ih.2 (fun z => h (List.mem_cons_of_mem _ z)), g, if_neg (fun e => h (by rw [e]; exact List.mem_cons_self))]
theorem lx_qf : lx_qs.all (fun q => ((Nat.ble 70 q && Nat.ble q 81) || (Nat.beq q 283 || Nat.beq q 284)) && (match ai_cell lx_h q with
  | some (.inr (.inl (ty, n, lo, hi, l))) => Nat.beq ty 0 && (Nat.beq n (lx_qn q) && (ai_eq lo ai_lo32 && (ai_eq hi ai_hi32 && l.isEmpty)))
  | _ => false)) = true ∧ (List.range 12).all (fun s => lx_qs.elem (70 + s)) = true ∧ lx_qs.elem 283 = true ∧ lx_qs.elem 284 = true ∧ ((ai_cell lx_h 286).isNone && ((ai_cell lx_h 288).isNone && ((ai_cell lx_h 289).isNone && (ai_cell lx_h 290).isNone))) = true := by decide +kernel
theorem lx_qc {q : Nat} (h : q ∈ lx_qs) : ((70 ≤ q ∧ q ≤ 81) ∨ q = 283 ∨ q = 284) ∧ ai_cell lx_h q = some (.inr (.inl (0, lx_qn q, ai_lo32, ai_hi32, []))) := by
  have g := List.all_eq_true.mp lx_qf.1 q h
  rw [Bool.and_eq_true] at g
  obtain ⟨g1, g2⟩ := g
  refine ⟨?_, ?_⟩
  · rw [Bool.or_eq_true, Bool.or_eq_true, Bool.and_eq_true] at g1
    rcases g1 with ⟨a, b⟩ | a | a
    · exact Or.inl ⟨Nat.le_of_ble_eq_true a, Nat.le_of_ble_eq_true b⟩
    · exact Or.inr (Or.inl (Nat.eq_of_beq_eq_true a))
    · exact Or.inr (Or.inr (Nat.eq_of_beq_eq_true a))
  · split at g2
    · rename_i ty n lo hi l e
      simp only [Bool.and_eq_true] at g2
      obtain ⟨a1, a2, a3, a4, a5⟩ := g2
      have a1 := Nat.eq_of_beq_eq_true a1
      have a2 := Nat.eq_of_beq_eq_true a2
      have a3 := ai_eq_iff.mp a3
      have a4 := ai_eq_iff.mp a4
      have a5 : l = [] := List.isEmpty_iff.mp a5
      subst a1 a2 a3 a4 a5
      exact e
    · cases g2
theorem lx_qlt : ∀ q ∈ lx_qs, q < 512 := fun q h => by
  have := (lx_qc h).1
  omega
theorem lx_qr {s : Nat} (h : s < 12) : 70 + s ∈ lx_qs ∧ lx_qn (70 + s) = 12 := by
  refine ⟨List.mem_of_elem_eq_true (List.all_eq_true.mp lx_qf.2.1 s (List.mem_range.mpr h)), ?_⟩
  unfold lx_qn
  cases e : Nat.beq (70 + s) 283 with
  | true =>
    have := Nat.eq_of_beq_eq_true e
    omega
  | false => rfl
theorem lx_hdc {k : Nat} (hk : k < 512) {d : ai_C} (h : ai_cell lx_hd k = some d) : ai_cell lx_h k = some d := by
  have h : ai_tget 9 (lx_dr lx_qs lx_h.2) k = some d := h
  have g := lx_dr_get (T := lx_h.2) lx_qlt hk
  by_cases hq : k ∈ lx_qs
  · rw [g.1 hq] at h
    cases h
  · rw [g.2 hq] at h
    exact h
/-! the rows -/
noncomputable def lx_mx (f t : Nat) : Nat := match Nat.ble f t with
  | true => t
  | false => f
noncomputable def lx_y4 (mx : Nat) : ai_G := ((hg_cap (hg_new (hg_new (hg_new lx_y0 (ai_lo32, ai_hi32)) (ai_lo32, ai_hi32)) (ai_lo32, ai_hi32)) 110 (.ofNat (mx + 1), 12)).1, lx_hd, 0, 0)
noncomputable def lx_rd5 (f t : Nat) : List (Int × ai_X) := [(1, (0, .ofNat f)), (2, (182, 0)), (3, (0, .ofNat t)), (4, (183, 0)), (5, (184, 0))]
noncomputable def lx_sk (pc mj : Nat) (S aa S' : List ai_V) : Bool := match lx_code pc with
  | some (i, len, a, b) => (match i with
    | .invokestatic _ => Nat.beq a mj && (Nat.beq len 3 && (match ai_call mj b (pc + 3) S with
      | some (.inr (.inl (m', aa', S2, p'))) => Nat.beq m' mj && (decide (aa' = aa) && (decide (S2 = S') && Nat.beq p' (pc + 3)))
      | _ => false))
    | _ => false)
  | none => false
theorem lx_sk_ok {pc mj : Nat} {S aa S' : List ai_V} (q : lx_sk pc mj S aa S' = true) : ∃ idx b, lx_code pc = some (.invokestatic idx, 3, mj, b) ∧ ai_call mj b (pc + 3) S = some (.inr (.inl (mj, aa, S', pc + 3))) := by
  unfold lx_sk at q
  split at q
  · rename_i i len a b ec
    split at q
    · rename_i idx
      simp only [Bool.and_eq_true] at q
      obtain ⟨h2, h3, h4⟩ := q
      have h2 := Nat.eq_of_beq_eq_true h2
      have h3 := Nat.eq_of_beq_eq_true h3
      subst h2 h3
      split at h4
      · rename_i m' aa' S2 p' ev
        simp only [Bool.and_eq_true, decide_eq_true_eq] at h4
        obtain ⟨k1, k2, k3, k4⟩ := h4
        have k1 := Nat.eq_of_beq_eq_true k1
        have k4 := Nat.eq_of_beq_eq_true k4
        subst k1 k2 k3 k4
        exact ⟨idx, b, ec, ev⟩
      · cases h4
    · cases q
  · cases q
noncomputable def lx_sv (pc mj : Nat) (h : ai_H) (S aa S' : List ai_V) : Bool := match lx_code pc with
  | some (i, len, a, b) => Nat.beq (fn_knd i).1 3 && (Nat.beq a mj && (Nat.beq len 3 && (match ai_vcall mj (Nat.mod b 64) (Nat.div b 64) (pc + 3) S h with
    | some (.inr (.inl (m', aa', S2, p'))) => Nat.beq m' mj && (decide (aa' = aa) && (decide (S2 = S') && Nat.beq p' (pc + 3)))
    | _ => false)))
  | none => false
theorem lx_sv_ok {pc mj : Nat} {h : ai_H} {S aa S' : List ai_V} (q : lx_sv pc mj h S aa S' = true) : ∃ idx b, lx_code pc = some (.invokevirtual idx, 3, mj, b) ∧ ai_vcall mj (Nat.mod b 64) (Nat.div b 64) (pc + 3) S h = some (.inr (.inl (mj, aa, S', pc + 3))) := by
  unfold lx_sv at q
  split at q
  · rename_i i len a b ec
    simp only [Bool.and_eq_true] at q
    obtain ⟨h1, h2, h3, h4⟩ := q
    obtain ⟨idx, hi⟩ := fn_knd3 (Nat.eq_of_beq_eq_true h1)
    have h2 := Nat.eq_of_beq_eq_true h2
    have h3 := Nat.eq_of_beq_eq_true h3
    subst hi h2 h3
    split at h4
    · rename_i m' aa' S2 p' ev
      simp only [Bool.and_eq_true, decide_eq_true_eq] at h4
      obtain ⟨k1, k2, k3, k4⟩ := h4
      have k1 := Nat.eq_of_beq_eq_true k1
      have k4 := Nat.eq_of_beq_eq_true k4
      subst k1 k2 k3 k4
      exact ⟨idx, b, ec, ev⟩
    · cases h4
  · cases q
noncomputable def lx_yg (g : ai_F) : ai_G := (g.2.2.2.1, ((cy_hm g.2.2.2.2.1).1, lx_bak lx_qs (cy_hm g.2.2.2.2.1).2), 1, 6)
/-- what the class has answered stands in out, a number of its own -/
noncomputable def lx_h3 (X : ai_X) (h : ai_H) : ai_H := match ai_cell h 335 with
  | some (.inr (.inl (ty, n, lo, hi, _))) => (h.1, ai_tset 9 h.2 335 (some (.inr (.inl (ty, n, lo, hi, [((0, .ofNat 0), X)])))))
  | _ => h
noncomputable def lx_yx (g : ai_F) : ai_G := ((hg_new (g.2.2.2.1, lx_hd, 1, 6) (0, 3)).1, lx_h3 (g.2.2.2.1.1, 0) lx_hd, 1, 6)
noncomputable def lx_yc3 (f t : Nat) (X : ai_X) (g : ai_F) : Bool := Nat.beq g.1 554 && ((Nat.beq g.2.2.2.2.2.1 1 && Nat.beq g.2.2.2.2.2.2 6) && ((lx_qs.all (fun q => (ai_cell (cy_hm g.2.2.2.2.1) q).isNone) && Nat.ble (cy_hm g.2.2.2.2.1).1 512) && (lx_sv 554 182 g.2.2.2.2.1 g.2.2.1 (cy_a4 f t (182, 0) (183, 0) (184, 0)) [] && (cy_ck4 g.2.2.2 f t (169 + f, 0) (169 + t, 0) (157 + f, 0) (157 + t, 0) (182, 0) (183, 0) (184, 0) && (match lx_run [] [23] 16 (lx_rd5 f t) false 557 g.2.1 [.inl X] (lx_yg g) with
  | some fs => fs.all (lx_fin [] lx_yP [] 0 lx_o)
  | none => false)))))
noncomputable def lx_yc2 (f t : Nat) (g : ai_F) : Bool := Nat.beq g.1 518 && ((hy_heq g.2.2.2.2.1 lx_hd && cy_z g) && (lx_sk 518 261 g.2.2.1 (cy_a3 f t (182, 0) (183, 0) (184, 0)) [] && (cy_ck3 g.2.2.2 f t (169 + f, 0) (169 + t, 0) (157 + f, 0) (157 + t, 0) (182, 0) (183, 0) (184, 0) && (match lx_run [] [554] 16 (lx_rd5 f t) false 521 g.2.1 [.inl (0, .ofNat 0)] (lx_yx g) with
  | some fs => fs.all (lx_yc3 f t (g.2.2.2.1.1, 0))
  | none => false))))
noncomputable def lx_ck5 (f t : Nat) : Bool := match lx_run [] [518] 16 (lx_rd5 f t) false 40 lx_L [.inl (0, .ofNat 5)] (lx_y4 (lx_mx f t)) with
  | some fs => fs.all (lx_yc2 f t)
  | none => false
