/-! THE LEAST (the class): a view's lines -/
theorem ze_eb {r : Nat → Int} {E : ai_E} {t : Nat} {lo hi : Int} (hE : ai_gE r E) (h : E.2.1.any (fun q => decide (q = (t, (lo, hi)))) = true) : lo ≤ r t ∧ r t ≤ hi := by
  obtain ⟨y, hy, ey⟩ := List.any_eq_true.mp h
  have ey := of_decide_eq_true ey
  subst ey
  exact (hE.2.2.2.1 _ hy).2
noncomputable def zc_s (v l p : Nat) : Nat := 430 + (20 * v + 4 * l + p)
noncomputable def zc_fx (v l : Nat) : pt_X := [(0, zc_s v l 0, 0), (0, 566, 0), (2, 2, 0), (0, zc_s v l 1, 0), (0, 566 + 1, 0), (2, 2, 0), (2, 0, 0), (0, zc_s v l 2, 0), (0, 566 + 2, 0), (2, 2, 0), (2, 0, 0), (0, zc_s v l 3, 0), (0, 566 + 3, 0), (2, 2, 0), (2, 0, 0), (1, 0, 0), (2, 13, 0)]
noncomputable def zc_mx (l : Nat) : pt_X := [(0, 128 + l, 0), (0, 731, 0), (2, 0, 0), (0, 730, 0), (2, 2, 0)]
noncomputable def zc_vL (v : Nat) (a b c d e : ai_V) : List ai_V := [wa_r 17, wa_k v, wa_r 99, a, b, c, d, e]
noncomputable def zc_vh (v l : Nat) : List ai_V := zc_vL v (wa_i 730) (wa_i 731) (wa_k l) wa_u wa_u
noncomputable def zc_v0 (v : Nat) : List ai_V := zc_vL v wa_u wa_u wa_u wa_u wa_u
noncomputable def zc_mo (v : Nat) : pt_X := match v with
  | 0 => gz_k 0
  | _ => gz_p 88
theorem zc_c1 : (List.range 6).all (fun v => pt_row zxY 44 [11, 29] true (0, 0, 0) (zc_v0 v) [] [] [] [] [] [((29, 0, 0), (zc_vh v 0, []), [(730, gz_p (424 + v)), (731, zc_mo v)], [(1, gz_p (424 + v), gz_k 0)]), ((11, 0, 0), (zc_v0 v, [wa_k 1]), [], [(0, gz_k 0, gz_p (424 + v)), (0, gz_p (424 + v), gz_k 0)])]) = true := by decide +kernel
theorem zc_c2 : (List.range 6).all (fun v => (List.range 5).all (fun l => pt_row zxY 44 [29, 109, 116] true (29, 0, 0) (zc_vh v l) [] [] [(72, (.ofNat (l + 1), 5))] [] [] [((29, 0, 0), (zc_vh v (l + 1), []), [], [(0, zc_fx v l, zc_mx l)]), ((109, 0, 0), (zc_vh v l, [wa_k 0]), [], [(0, zc_mx l, zc_fx v l ++ [(3, 0, -1)])])])) = true := by decide +kernel
theorem zc_c3 : (List.range 6).all (fun v => (List.range 6).all (fun l => pt_row zxY 44 [117] true (29, 0, 0) (zc_vh v l) [] [] [(72, (0, .ofNat l))] [] [] [((117, 0, 0), (zc_vh v l, [wa_k 1]), [], [])])) = true := by decide +kernel
theorem zc_k : ((pt_is 8 44 11 = true ∧ pt_is 8 44 109 = true ∧ pt_is 8 44 117 = true) ∧ (ct_mt 44).2.2.1 = 8) ∧ lh_plain 44 = true ∧ ct_bud 44 = (0, 0) := by decide +kernel
theorem zc_bd : zxE.2.1.any (fun q => decide (q = (72, ((0 : Int), (5 : Int))))) = true ∧ (List.range 4).all (fun j => zxE.2.1.any (fun q => decide (q = (133 + j, ((0 : Int), (3 : Int)))))) = true := by decide +kernel
/-- a LINE's flow in a view; what it may bear -/
noncomputable def zc_f (r : Nat → Int) (v l : Nat) : Int := ai_op 13 (ai_op 0 (ai_op 0 (ai_op 0 (ai_op 2 (r (zc_s v l 0)) (r 566)) (ai_op 2 (r (zc_s v l 1)) (r (566 + 1)))) (ai_op 2 (r (zc_s v l 2)) (r (566 + 2)))) (ai_op 2 (r (zc_s v l 3)) (r (566 + 3)))) 0
noncomputable def zc_m (r : Nat → Int) (v l : Nat) : Int := ai_op 2 (ai_op 0 (r (128 + l)) (if v = 0 then 0 else r 88)) (r (424 + v))
noncomputable def zc_co (r : Nat → Int) (v : Nat) : Prop := r (424 + v) = 0 ∨ ∀ l : Nat, l < 5 → (l : Int) + 1 ≤ r 72 → zc_f r v l ≤ zc_m r v l
noncomputable def zc_ca : List ai_V := [wa_r 17, wa_i 727, wa_r 99]
/-- numbers that a view speaks of -/
noncomputable def zc_dp (t : Nat) : Prop := (424 ≤ t ∧ t < 424 + 6) ∨ (430 ≤ t ∧ t < 430 + 120) ∨ (566 ≤ t ∧ t < 566 + 4) ∨ (128 ≤ t ∧ t < 128 + 5) ∨ t = 88 ∨ t = 72
theorem zc_dp_lt {t : Nat} (h : zc_dp t) : t < 727 := by
  unfold zc_dp at h
  omega
theorem zc_fe {r r1 : Nat → Int} {v l : Nat} (hv : v < 6) (hl : l < 5) (h : ∀ t, zc_dp t → r1 t = r t) : zc_f r1 v l = zc_f r v l := by
  have k : ∀ p, p < 4 → r1 (zc_s v l p) = r (zc_s v l p) ∧ r1 (566 + p) = r (566 + p) := fun p hp => ⟨h _ (by unfold zc_dp zc_s; omega), h _ (by unfold zc_dp; omega)⟩
  have k0 : r1 566 = r 566 := (k 0 (by omega)).2
  unfold zc_f
  rw [(k 0 (by omega)).1, (k 1 (by omega)).1, (k 2 (by omega)).1, (k 3 (by omega)).1, k0, (k 1 (by omega)).2, (k 2 (by omega)).2, (k 3 (by omega)).2]
theorem zc_cM {n v : Nat} (hn : 4 ≤ n) (hv : v < 6) : pt_Met (n + 1) 44 zxY zc_ca (fun r _ => r 727 = (v : Int)) (fun r M r2 M2 o => ((o = some 1 ∧ zc_co r v) ∨ (o = some 0 ∧ ¬ zc_co r v)) ∧ (∀ t, t < 727 → r2 t = r t) ∧ M2 = M) 1 := by
  refine pt_intro (L0 := [wa_r 17, wa_i 727, wa_r 99, wa_u, wa_u, wa_u, wa_u, wa_u]) zc_k.2.1 hn zxsys (by
    rw [zc_k.1.2]
    rfl) (fun P r M h hp => ?_)
  obtain ⟨hseg, henv, hrel, -, -, -, -, -, -, -, -, hret, -⟩ := h
  refine henv _ _ _ _ _ (fun hE _ => ?_)
  have h0 : r 0 = 0 := hE.1
  have bL := ze_eb hE zc_bd.1
  refine hrel (0, 0, 0) _ (zc_v0 v) [] [] r M ⟨rfl, ⟨by show 0 < 827; omega, by show r 727 + 0 = r 0 + (v : Int); omega⟩, rfl, trivial, trivial, trivial, trivial, trivial, trivial⟩ trivial ?_
  have c1 := List.all_eq_true.mp zc_c1 v (List.mem_range.mpr hv)
  refine hseg _ _ _ _ _ r M _ _ _ _ _ c1 ⟨pt_m0, pt_m0, pt_m0⟩ ⟨fun g => ?_, fun g => ?_, trivial⟩
  · have g : r (424 + v) ≠ 0 := g.1
    obtain ⟨r1, hr1⟩ : ∃ r1, r1 = pt_up r [(730, gz_p (424 + v)), (731, zc_mo v)] := ⟨_, rfl⟩
    show P (29, 0, 0) (zc_vh v 0) [] (pt_up r [(730, gz_p (424 + v)), (731, zc_mo v)]) M
    rw [← hr1]
    have em : pt_v r (zc_mo v) = if v = 0 then 0 else r 88 := by
      cases v with
      | zero => rfl
      | succ v => rfl
    have v1 : ∀ t, r1 t = if t = 730 then r (424 + v) else if t = 731 then (if v = 0 then 0 else r 88) else r t := fun t => by
      rw [hr1, ← em]
      rfl
    have key : ∀ (d l : Nat) (r2 : Nat → Int), l + d = 5 → (r2 730 = r (424 + v) ∧ r2 731 = if v = 0 then 0 else r 88) → (∀ t, t < 727 → r2 t = r t) → (∀ k : Nat, k < l → (k : Int) + 1 ≤ r 72 → zc_f r v k ≤ zc_m r v k) → P (29, 0, 0) (zc_vh v l) [] r2 M := by
      have out : ∀ (l : Nat) (r2 : Nat → Int), l ≤ 5 → r 72 ≤ (l : Int) → (∀ t, t < 727 → r2 t = r t) → (∀ k : Nat, k < l → (k : Int) + 1 ≤ r 72 → zc_f r v k ≤ zc_m r v k) → P (29, 0, 0) (zc_vh v l) [] r2 M := fun l r2 hl hle f2 ok => by
        refine henv _ _ _ _ _ (fun hE2 _ => ?_)
        have eL : r2 72 = r 72 := f2 _ (by omega)
        refine hseg _ _ _ _ _ r2 M _ _ _ _ _ (List.all_eq_true.mp (List.all_eq_true.mp zc_c3 v (List.mem_range.mpr hv)) l (List.mem_range.mpr (by omega))) ⟨pt_m0, pt_m1 ⟨by show (0 : Int) ≤ r2 72; omega, by show r2 72 ≤ (l : Int); omega⟩, pt_m0⟩ ⟨fun _ => ?_, trivial⟩
        have e1 : ai_vx r2 (0, .ofNat 1) = 1 := by
          show r2 0 + 1 = 1
          rw [hE2.1]
          rfl
        refine hret (117, 0, 0) _ (0, .ofNat 1) r2 M rfl zc_k.1.1.2.2 (by decide +kernel) (by decide +kernel) (Or.inr e1) ⟨Or.inl ⟨congrArg some e1, Or.inr (fun k hk hle2 => ok k (by omega) hle2)⟩, f2, rfl⟩
      intro d
      induction d with
      | zero => exact fun l r2 hd e2 f2 ok => out l r2 (by omega) (by omega) f2 ok
      | succ d ih =>
        intro l r2 hd e2 f2 ok
        by_cases c : r 72 ≤ (l : Int)
        · exact out l r2 (by omega) c f2 ok
        refine henv _ _ _ _ _ (fun hE2 _ => ?_)
        have eL : r2 72 = r 72 := f2 _ (by omega)
        have ef : zc_f r2 v l = zc_f r v l := zc_fe hv (by omega) (fun t a => f2 t (zc_dp_lt a))
        have em : pt_v r2 (zc_mx l) = zc_m r v l := by
          show ai_op 2 (ai_op 0 (r2 (128 + l)) (r2 731)) (r2 730) = _
          rw [e2.1, e2.2, f2 _ (by omega)]
          rfl
        refine hseg _ _ _ _ _ r2 M _ _ _ _ _ (List.all_eq_true.mp (List.all_eq_true.mp zc_c2 v (List.mem_range.mpr hv)) l (List.mem_range.mpr (by omega))) ⟨pt_m0, pt_m1 ⟨by show ((l + 1 : Nat) : Int) ≤ r2 72; omega, by show r2 72 ≤ 5; omega⟩, pt_m0⟩ ⟨fun g => ?_, fun g => ?_, trivial⟩
        · have g : zc_f r2 v l ≤ pt_v r2 (zc_mx l) := g.1
          rw [em, ef] at g
          refine ih (l + 1) r2 (by omega) e2 f2 (fun k hk hle => ?_)
          by_cases q : k = l
          · rw [q]
            exact g
          · exact ok k (by omega) hle
        · have g : pt_v r2 (zc_mx l) ≤ zc_f r2 v l + -1 := g.1
          rw [em, ef] at g
          have e1 : ai_vx r2 (0, .ofNat 0) = 0 := by
            show r2 0 + 0 = 0
            rw [hE2.1]
            rfl
          refine hret (109, 0, 0) _ (0, .ofNat 0) r2 M rfl zc_k.1.1.2.1 (by decide +kernel) (by decide +kernel) (Or.inl e1) ⟨Or.inr ⟨congrArg some e1, fun q => ?_⟩, f2, rfl⟩
          rcases q with q | q
          · exact absurd q ‹r (424 + v) ≠ 0›
          · have := q l (by omega) (by omega)
            omega
    refine key 5 0 r1 rfl ⟨by rw [v1, if_pos rfl], by rw [v1, if_neg (by omega), if_pos rfl]⟩ (fun t a => by rw [v1, if_neg (by omega), if_neg (by omega)]) (fun k hk => absurd hk (Nat.not_lt_zero k))
  · have g1 : 0 ≤ r (424 + v) := g.1
    have g2 : r (424 + v) ≤ 0 := g.2.1
    have e1 : ai_vx r (0, .ofNat 1) = 1 := by
      show r 0 + 1 = 1
      rw [h0]
      rfl
    refine hret (11, 0, 0) _ (0, .ofNat 1) r M rfl zc_k.1.1.1 (by decide +kernel) (by decide +kernel) (Or.inr e1) ⟨Or.inl ⟨congrArg some e1, Or.inl (by omega)⟩, fun _ _ => rfl, rfl⟩
