/-! addPlace -/
noncomputable def ra_i (t : Nat) : ai_V := .inl (t, 0)
noncomputable def ra_16 : ai_V := .inr (.inr (some (some 16)))
noncomputable def ra_335 : ai_V := .inr (.inr (some (some 335)))
theorem ra_up_self {r : Nat → Int} (h0 : r 0 = 0) : ∀ {W : List (Nat × pt_X)}, (∀ q ∈ W, q.2 = pt_xr (q.1, 0)) → pt_up r W = r
  | [], _ => rfl
  | q :: W, h => by
    have ih := ra_up_self h0 (fun z hz => h z (List.mem_cons_of_mem _ hz))
    funext t
    unfold pt_up
    by_cases e : t = q.1
    · rw [if_pos e, h q List.mem_cons_self, pt_xr_ok h0, e]
      show r q.1 + 0 = r q.1
      rw [Int.add_zero]
    · rw [if_neg e, ih]
theorem ra_view_c {r r1 r2 : Nat → Int} {v : Nat} (hv : v < 6) (h : ra_view r r1 v) (e : ∀ t, t < 325 → r2 t = r1 t) : ra_view r r2 v := by
  have b1 := ra_wnb hv
  have b2 := ra_hnb hv
  obtain ⟨a1, a2⟩ := h
  refine ⟨(e _ (by omega)).trans a1, fun l hl hll p hp => (e _ (by omega)).trans (a2 l hl hll p hp)⟩
theorem ra_rQ_c {r r1 r2 : Nat → Int} {M M2 : Nat → Nat → Int} {o : Option Int} (h : ra_rQ r M r1 M2 o) (e : ∀ t, t < 325 → r2 t = r1 t) : ra_rQ r M r2 M2 o :=
  ⟨h.1, h.2.1, fun v hv hl => ra_view_c hv (h.2.2.1 v hv hl) e, fun t ht => (e t ht.1).trans (h.2.2.2 t ht)⟩
theorem ra_mlt {r r2 : Nat → Int} {z t : Nat} {v : Option Int} (h : t < 325) : pt_mrg 325 r r2 z v t = r2 t := if_pos h
theorem ra_mge {r r2 : Nat → Int} {z t : Nat} (h : 325 ≤ t) : pt_mrg 325 r r2 z none t = r t := if_neg (by omega)
theorem ra_mz {r r2 : Nat → Int} {z : Nat} {v : Int} (h : 325 ≤ z) : pt_mrg 325 r r2 z (some v) z = v := by
  show (if z < 325 then r2 z else if z = z then v else r z) = v
  rw [if_neg (by omega), if_pos rfl]
theorem ra_mne {r r2 : Nat → Int} {z t : Nat} {v : Int} (h : 325 ≤ t) (hz : t ≠ z) : pt_mrg 325 r r2 z (some v) t = r t := by
  show (if t < 325 then r2 t else if t = z then v else r t) = r t
  rw [if_neg (by omega), if_neg hz]
theorem ra_bud0 : ct_bud 27 = (0, 0) ∧ ct_bud 28 = (0, 0) ∧ ct_bud 133 = (0, 0) ∧ ct_bud 37 = (0, 0) := by decide +kernel
theorem ra_rm0 {mj n : Nat} (h : ct_bud mj = (0, 0)) : (lt_rm n mj).cells = 0 ∧ (lt_rm n mj).slots = 0 := ⟨congrArg (fun z => z.1) h, congrArg (fun z => z.2) h⟩
theorem ra_bud1 : ct_bud 134 = (1, 6) ∧ ct_bud 145 = (1, 6) := by decide +kernel
theorem ra_rmk {mj n a b : Nat} (h : ct_bud mj = (a, b)) : (lt_rm n mj).cells = a ∧ (lt_rm n mj).slots = b := ⟨congrArg (fun z => z.1) h, congrArg (fun z => z.2) h⟩
theorem ra_a_c : pt_row raY 27 [21] true (0, 0, 0) [ra_17] [] [] [(122, (0, 3))] [] [] [((21, 0, 0), ([ra_17], [ra_17]), [(122, [(0, 122, 0), (3, 0, 1)])], [])] = true := by decide +kernel
theorem ra_a_d : pt_row raY 27 [30] true (24, 0, 0) [ra_17] [] [] [(122, (1, 4))] [] [] [((30, 0, 0), ([ra_17], [ra_i 405]), [(405, [(0, 122, 0), (3, 0, -1)])], [])] = true := by decide +kernel
theorem ra_a_k : (cy_vk 27 21 38 raY.2.1 [ra_17] [ra_17] [] && pt_cck raY 27 38 (21, 0, 0) 0 326 [ra_17] [] [ra_17] [ra_17]) = true := by decide +kernel
theorem ra_plx : lh_plain 27 = true ∧ lh_plain 28 = true ∧ lh_plain 133 = true ∧ lh_plain 134 = true ∧ lh_plain 258 = true ∧ lh_plain 37 = true ∧ lh_plain 145 = true ∧ lh_plain 265 = true := by decide +kernel
noncomputable def ra_1 (r : Nat → Int) : Nat → Int := fun t => if t = 122 then r 122 + 1 else r t
noncomputable def ra_aQ (r : Nat → Int) (M : Nat → Nat → Int) (r2 : Nat → Int) (M2 : Nat → Nat → Int) (o : Option Int) : Prop := o = some (r 122) ∧ ra_rQ (ra_1 r) M r2 M2 none
theorem ra_addPlace {n : Nat} (hn : 6 ≤ n) : pt_Met (n + 1) 27 raY [ra_17] (fun r _ => ra_ok r ∧ r 122 ≤ 3) ra_aQ 1 := by
  obtain ⟨n, rfl⟩ : ∃ m, n = m + 1 := ⟨n - 1, by omega⟩
  refine pt_intro (L0 := [ra_17]) ra_plx.1 (by omega) rasys (by
    have e : (ct_mt 27).2.2.1 = 1 := by decide +kernel
    rw [e]
    rfl) (fun P r M h hp => ?_)
  obtain ⟨hseg, henv, -, -, -, -, -, -, hcall, -, hret, -, -, -⟩ := h
  refine henv _ _ _ _ _ (fun hE _ => ?_)
  have b := ra_eb hE ra_bnd.2.1
  refine hseg _ _ _ _ _ _ _ _ _ _ _ _ ra_a_c ⟨pt_m0, pt_m1 ⟨b.1, hp.2⟩, pt_m0⟩ ⟨fun _ => ?_, trivial⟩
  have e1 : pt_up r [(122, [(0, 122, 0), (3, 0, 1)])] = ra_1 r := funext (fun t => rfl)
  show P (21, 0, 0) [ra_17] [ra_17] (pt_up r [(122, [(0, 122, 0), (3, 0, 1)])]) M
  rw [e1]
  have n1 : ∀ t, t ≠ 122 → ra_1 r t = r t := fun t ht => if_neg ht
  have ck := ra_a_k
  rw [Bool.and_eq_true] at ck
  have ok1 : ra_ok (ra_1 r) := fun l hl w => by
    rw [n1 _ (by omega)] at w
    rw [n1 _ (by omega), n1 _ (by omega)]
    exact hp.1 l hl w
  refine hcall (21, 0, 0) _ _ _ _ _ (ra_1 r) M 38 0 326 _ _ ra_rpl ck.1 ck.2 (ra_rework (by omega)) ok1 (fun r1 M1 o hq => ?_)
  have hq : ra_rQ (ra_1 r) M r1 M1 o := hq
  obtain ⟨rc, rs⟩ := ra_rm0 (n := n + 1) ra_r_b.2.2
  have o1 := hq.1
  have o2 := hq.2.1
  subst o1 o2
  rw [rc, rs]
  obtain ⟨s1, hs1⟩ : ∃ s1, s1 = pt_mrg 325 (ra_1 r) r1 326 none := ⟨_, rfl⟩
  show P (24, 0, 0) [ra_17] [] (pt_mrg 325 (ra_1 r) r1 326 none) M1
  rw [← hs1]
  have m1 : ∀ t, t < 325 → s1 t = r1 t := fun t ht => by rw [hs1]; exact ra_mlt ht
  have ep : s1 122 = r 122 + 1 := by
    rw [m1 _ (by omega), hq.2.2.2 _ (by unfold ra_keep; omega)]
    exact if_pos rfl
  refine hseg _ _ _ _ _ _ _ _ _ _ _ _ ra_a_d ⟨pt_m0, pt_m1 ⟨by show 1 ≤ s1 122; omega, by show s1 122 ≤ 4; omega⟩, pt_m0⟩ ⟨fun _ => ?_, trivial⟩
  refine hret (30, 0, 0) _ (405, 0) _ M1 rfl (by decide +kernel) (by decide +kernel) (by decide +kernel) ⟨congrArg some ?_, ra_rQ_c hq (fun t ht => ?_)⟩
  · show (s1 122 + -1) + 0 = r 122
    omega
  · refine Eq.trans ?_ (m1 t ht)
    exact if_neg (by omega)
