/-! THE LEAST (the class): whether a row fits -/
noncomputable def zc_pu (r t : Nat → Int) : Nat → Nat → Int
  | 0, p => ai_op 1 0 (r (411 + p))
  | j + 1, p => if r (133 + j) = (p : Int) then ai_op 0 (zc_pu r t j p) (t j) else zc_pu r t j p
noncomputable def zc_pr (r t : Nat → Int) : Nat → Int := fun x => if 566 ≤ x ∧ x < 566 + 4 then zc_pu r t 4 (x - 566) else r x
noncomputable def zc_vw (r : Nat → Int) : Int := if r 87 = 0 then 1 else r 72 + 1
noncomputable def zc_ft (r t : Nat → Int) : Prop := ∀ v : Nat, v < 6 → (v : Int) + 1 ≤ zc_vw r → zc_co (zc_pr r t) v
noncomputable def zc_fL (a b : ai_V) : List ai_V := [wa_r 87, a, b]
noncomputable def zc_fh (v : Nat) : List ai_V := zc_fL (wa_i 728) (wa_k v)
theorem zc_d1 : pt_row zxY 14 [28] true (0, 0, 0) (zc_fL wa_u wa_u) [] [] [] [] [99] [((28, 0, 0), (zc_fL (wa_k 0) wa_u, []), [(566, [(1, 0, 0), (0, 411, 0), (2, 1, 0)]), (566 + 1, [(1, 0, 0), (0, 411 + 1, 0), (2, 1, 0)]), (566 + 2, [(1, 0, 0), (0, 411 + 2, 0), (2, 1, 0)]), (566 + 3, [(1, 0, 0), (0, 411 + 3, 0), (2, 1, 0)])], [])] = true := by decide +kernel
theorem zc_d2 : (List.range 4).all (fun m => (List.range 4).all (fun a => pt_row zxY 14 [28] true (28, 0, 0) (zc_fL (wa_k m) wa_u) [] [(133 + m, .ofNat a)] [] [] [99] [((28, 0, 0), (zc_fL (wa_k (m + 1)) wa_u, []), [(133 + m, gz_k (.ofNat a)), (566 + a, [(0, 566 + a, 0), (0, 562 + m, 0), (2, 0, 0)])], [])])) = true := by decide +kernel
theorem zc_d3 : pt_row zxY 14 [101] true (28, 0, 0) (zc_fL (wa_k 4) wa_u) [] [] [] [] [] [((101, 0, 0), (zc_fh 0, []), [(728, gz_k 1)], [(0, gz_k 0, gz_p 87), (0, gz_p 87, gz_k 0)]), ((101, 0, 0), (zc_fh 0, []), [(728, gz_d 72 1)], [(0, gz_k 1, gz_p 87)])] = true := by decide +kernel
theorem zc_d4 : (List.range 6).all (fun v => pt_row zxY 14 [115, 130] true (101, 0, 0) (zc_fh v) [] [] [(728, (.ofNat (v + 1), 6))] [] [] [((115, 0, 0), (zc_fh v, [wa_r 99, wa_k v, wa_r 17]), [], [])] && pt_row zxY 14 [115, 130] true (101, 0, 0) (zc_fh (v + 1)) [] [] [(728, (1, .ofNat (v + 1)))] [] [] [((130, 0, 0), (zc_fh (v + 1), [wa_k 1]), [], [])]) = true := by decide +kernel
theorem zc_d5 : (List.range 6).all (fun v => pt_row zxY 14 [101, 122] false (118, 0, 0) (zc_fh v) [wa_i 807] [] [(807, (1, 1))] [] [] [((101, 0, 0), (zc_fh (v + 1), []), [], [])] && pt_row zxY 14 [101, 122] false (118, 0, 0) (zc_fh v) [wa_i 807] [] [(807, (0, 0))] [] [] [((122, 0, 0), (zc_fh v, [wa_k 0]), [], [])]) = true := by decide +kernel
theorem zc_fk : (List.range 6).all (fun v => cy_vk 14 115 44 zxY.2.1 [wa_r 99, wa_k v, wa_r 17] [wa_r 17, wa_k v, wa_r 99] [] && pt_cck zxY 14 44 (115, 0, 0) 1 807 (zc_fh v) [] [wa_r 17, wa_k v, wa_r 99] zc_ca) = true ∧ ((pt_is 8 14 122 = true ∧ pt_is 8 14 130 = true) ∧ (ct_mt 14).2.2.1 = 3) ∧ lh_plain 14 = true ∧ ct_bud 14 = (0, 0) := by decide +kernel
theorem zc_fb : zxE.2.1.any (fun q => decide (q = (87, ((0 : Int), (1 : Int))))) = true := by decide +kernel
theorem zc_coe {r r1 : Nat → Int} {v : Nat} (hv : v < 6) (h : ∀ t, zc_dp t → r1 t = r t) : zc_co r1 v ↔ zc_co r v := by
  have em : ∀ l, l < 5 → zc_m r1 v l = zc_m r v l := fun l hl => by
    unfold zc_m
    rw [h (128 + l) (by unfold zc_dp; omega), h (424 + v) (by unfold zc_dp; omega), h 88 (by unfold zc_dp; omega)]
  unfold zc_co
  rw [h (424 + v) (by unfold zc_dp; omega), h 72 (by unfold zc_dp; omega)]
  refine ⟨fun g => ?_, fun g => ?_⟩
  · rcases g with g | g
    · exact Or.inl g
    · exact Or.inr (fun l hl hle => by rw [← zc_fe hv hl h, ← em l hl]; exact g l hl hle)
  · rcases g with g | g
    · exact Or.inl g
    · exact Or.inr (fun l hl hle => by rw [zc_fe hv hl h, em l hl]; exact g l hl hle)
/-- numbers that the search leaves -/
noncomputable def zc_st (t : Nat) : Prop := t ≠ 46 ∧ ¬ (550 ≤ t ∧ t < 550 + 4) ∧ ¬ (562 ≤ t ∧ t < 562 + 4)
noncomputable def zc_nP (t : Nat) : Prop := ¬ (566 ≤ t ∧ t < 566 + 4)
section ZCF
variable {n : Nat} {Z : (Nat → Int) → (Nat → Nat → Int) → Option Int → Prop} {P : pt_P} {r : Nat → Int} {M : Nat → Nat → Int}
theorem zc_vloop (h : pt_Cl (n + 1) 14 zxY 1 Z P) (hn : 4 ≤ n) {r0 : Nat → Int} {w : Int} (hw : 1 ≤ w ∧ w ≤ 6)
    (hz : ∀ r2 b, ((b = 1 ∧ ∀ v : Nat, v < 6 → (v : Int) + 1 ≤ w → zc_co r0 v) ∨ (b = 0 ∧ ¬ ∀ v : Nat, v < 6 → (v : Int) + 1 ≤ w → zc_co r0 v)) → (∀ t, t < 727 → r2 t = r0 t) → Z r2 M (some b)) :
    ∀ (d v : Nat) (r1 : Nat → Int), v + d = 6 → r1 728 = w → (∀ t, t < 727 → r1 t = r0 t) → (∀ k : Nat, k < v → (k : Int) + 1 ≤ w → zc_co r0 k) → P (101, 0, 0) (zc_fh v) [] r1 M := by
  obtain ⟨hseg, henv, -, -, -, -, -, -, hcall, -, -, hret, -⟩ := h
  have out : ∀ (v : Nat) (r1 : Nat → Int), v ≤ 6 → w ≤ (v : Int) → r1 728 = w → (∀ t, t < 727 → r1 t = r0 t) → (∀ k : Nat, k < v → (k : Int) + 1 ≤ w → zc_co r0 k) → P (101, 0, 0) (zc_fh v) [] r1 M := fun v r1 hv hle e1 f1 ok => by
    refine henv _ _ _ _ _ (fun hE1 _ => ?_)
    obtain ⟨u, rfl⟩ : ∃ u, v = u + 1 := ⟨v - 1, by omega⟩
    have row := List.all_eq_true.mp zc_d4 u (List.mem_range.mpr (by omega))
    rw [Bool.and_eq_true] at row
    refine hseg _ _ _ _ _ r1 M _ _ _ _ _ row.2 ⟨pt_m0, pt_m1 ⟨by show (1 : Int) ≤ r1 728; omega, by show r1 728 ≤ ((u + 1 : Nat) : Int); omega⟩, pt_m0⟩ ⟨fun _ => ?_, trivial⟩
    have e1 : ai_vx r1 (0, .ofNat 1) = 1 := by
      show r1 0 + 1 = 1
      rw [hE1.1]
      rfl
    refine hret (130, 0, 0) _ (0, .ofNat 1) r1 M rfl zc_fk.2.1.1.2 (by decide +kernel) (by decide +kernel) (Or.inr e1) ?_
    rw [e1]
    exact hz r1 1 (Or.inl ⟨rfl, fun k hk hle2 => ok k (by omega) hle2⟩) f1
  intro d
  induction d with
  | zero => exact fun v r1 hd e1 f1 ok => out v r1 (by omega) (by omega) e1 f1 ok
  | succ d ih =>
    intro v r1 hd e1 f1 ok
    by_cases c : w ≤ (v : Int)
    · exact out v r1 (by omega) c e1 f1 ok
    have hv : v < 6 := by omega
    have row := List.all_eq_true.mp zc_d4 v (List.mem_range.mpr (by omega))
    rw [Bool.and_eq_true] at row
    have row5 := List.all_eq_true.mp zc_d5 v (List.mem_range.mpr hv)
    rw [Bool.and_eq_true] at row5
    have ck := List.all_eq_true.mp zc_fk.1 v (List.mem_range.mpr hv)
    rw [Bool.and_eq_true] at ck
    refine hseg _ _ _ _ _ r1 M _ _ _ _ _ row.1 ⟨pt_m0, pt_m1 ⟨by show ((v + 1 : Nat) : Int) ≤ r1 728; omega, by show r1 728 ≤ 6; omega⟩, pt_m0⟩ ⟨fun _ => ?_, trivial⟩
    show P (115, 0, 0) (zc_fh v) [wa_r 99, wa_k v, wa_r 17] r1 M
    refine henv _ _ _ _ _ (fun hE1 _ => ?_)
    obtain ⟨r6, hr6⟩ : ∃ r6, r6 = pt_up r1 (pt_wc [wa_r 17, wa_k v, wa_r 99] zc_ca) := ⟨_, rfl⟩
    have v6 : ∀ t, r6 t = if t = 727 then (v : Int) else r1 t := fun t => by
      have e : pt_v r1 (pt_xr (0, .ofNat v)) = (v : Int) := by
        rw [pt_xr_ok hE1.1]
        show r1 0 + (v : Int) = v
        rw [hE1.1, Int.zero_add]
      rw [hr6, ← e]
      rfl
    refine hcall (115, 0, 0) _ _ _ _ _ r1 M 44 1 807 _ _ zc_k.2.1 ck.1 ck.2 (zc_cM (n := n) (v := v) hn hv) (by
      rw [← hr6, v6, if_pos rfl]) (fun r7 M7 o hq => ?_)
    rw [← hr6] at hq
    obtain ⟨rc, rs⟩ := wa_rm (n := n + 1) zc_k.2.2
    rw [rc, rs]
    obtain ⟨ho, f7, eM⟩ := hq
    rw [eM]
    have g6 : ∀ t, t < 727 → r6 t = r0 t := fun t a => by
      rw [v6, if_neg (by omega)]
      exact f1 t a
    rw [zc_coe hv (fun t a => g6 t (zc_dp_lt a))] at ho
    have next : ∀ b : Int, o = some b → ∃ r8 : Nat → Int, (r8 807 = b ∧ r8 728 = w) ∧ (∀ t, t < 727 → r8 t = r0 t) ∧ (P (118, 0, 0) (zc_fh v) [wa_i 807] r8 M → P (115 + 3, 0 + 0, 0 + 0) (zc_fh v) (pt_psh 1 807 []) (pt_mrg 727 r1 r7 807 o) M) := fun b hb => by
      refine ⟨pt_mrg 727 r1 r7 807 (some b), ⟨wa_mz (by omega), ?_⟩, fun t a => ?_, fun q => ?_⟩
      · show (if 728 < 727 then _ else if 728 = 807 then b else r1 728) = w
        rw [if_neg (by omega), if_neg (by omega)]
        exact e1
      · rw [wa_mlt a, f7 t a]
        exact g6 t a
      · rw [hb]
        exact q
    rcases ho with ⟨ho, hc⟩ | ⟨ho, hc⟩
    · obtain ⟨r8, ⟨b1, b2⟩, f8, go⟩ := next 1 ho
      refine go (hseg _ _ _ _ _ r8 M _ _ _ _ _ row5.1 ⟨pt_m0, pt_m1 ⟨by show (1 : Int) ≤ r8 807; omega, by show r8 807 ≤ 1; omega⟩, pt_m0⟩ ⟨fun _ => ?_, trivial⟩)
      refine ih (v + 1) r8 (by omega) b2 f8 (fun k hk hle => ?_)
      by_cases q : k = v
      · rw [q]
        exact hc
      · exact ok k (by omega) hle
    · obtain ⟨r8, ⟨b1, b2⟩, f8, go⟩ := next 0 ho
      refine go (hseg _ _ _ _ _ r8 M _ _ _ _ _ row5.2 ⟨pt_m0, pt_m1 ⟨by show (0 : Int) ≤ r8 807; omega, by show r8 807 ≤ 0; omega⟩, pt_m0⟩ ⟨fun _ => ?_, trivial⟩)
      show P (122, 0, 0) (zc_fh v) [wa_k 0] r8 M
      refine henv _ _ _ _ _ (fun hE8 _ => ?_)
      have e0 : ai_vx r8 (0, .ofNat 0) = 0 := by
        show r8 0 + 0 = 0
        rw [hE8.1]
        rfl
      refine hret (122, 0, 0) _ (0, .ofNat 0) r8 M rfl zc_fk.2.1.1.1 (by decide +kernel) (by decide +kernel) (Or.inl e0) ?_
      rw [e0]
      exact hz r8 0 (Or.inr ⟨rfl, fun q => hc (q v hv (by omega))⟩) f8
theorem zc_mloop (h : pt_Cl (n + 1) 14 zxY 1 Z P) (hn : 4 ≤ n) (hz : ∀ r2 b, ((b = 1 ∧ zc_ft r (fun k => r (562 + k))) ∨ (b = 0 ∧ ¬ zc_ft r (fun k => r (562 + k)))) → (∀ t, t < 727 → zc_nP t → r2 t = r t) → Z r2 M (some b)) :
    ∀ (d m : Nat) (r1 : Nat → Int), m + d = 4 → (∀ p, p < 4 → r1 (566 + p) = zc_pu r (fun k => r (562 + k)) m p) → (∀ t, t < 727 → zc_nP t → r1 t = r t) → P (28, 0, 0) (zc_fL (wa_k m) wa_u) [] r1 M := by
  have h' := h
  obtain ⟨hseg, henv, -⟩ := h'
  intro d
  induction d with
  | zero =>
    intro m r1 hd e1 f1
    have em : m = 4 := by omega
    subst em
    refine henv _ _ _ _ _ (fun hE1 _ => ?_)
    have bF := ze_eb hE1 zc_fb
    have bL := ze_eb hE1 zc_bd.1
    have eF : r1 87 = r 87 := f1 _ (by omega) (by unfold zc_nP; omega)
    have eL : r1 72 = r 72 := f1 _ (by omega) (by unfold zc_nP; omega)
    have pr : ∀ t, t < 727 → r1 t = zc_pr r (fun k => r (562 + k)) t := fun t a => by
      unfold zc_pr
      by_cases q : 566 ≤ t ∧ t < 566 + 4
      · rw [if_pos q]
        have g := e1 (t - 566) (by omega)
        rw [show 566 + (t - 566) = t by omega] at g
        exact g
      · rw [if_neg q]
        exact f1 t a q
    have fin : ∀ (w : Int) (r2 : Nat → Int), w = zc_vw r → r2 728 = w → (∀ t, t < 727 → r2 t = r1 t) → P (101, 0, 0) (zc_fh 0) [] r2 M := fun w r2 hw e2 f2 => by
      have bw : 1 ≤ w ∧ w ≤ 6 := by
        rw [hw]
        unfold zc_vw
        split <;> omega
      refine zc_vloop h hn (r0 := zc_pr r (fun k => r (562 + k))) bw (fun r3 b hb f3 => hz r3 b ?_ (fun t a c => ?_)) 6 0 r2 rfl e2 (fun t a => (f2 t a).trans (pr t a)) (fun k hk => absurd hk (Nat.not_lt_zero k))
      · unfold zc_ft
        rw [← hw]
        exact hb
      · rw [f3 t a, ← pr t a]
        exact f1 t a c
    refine hseg _ _ _ _ _ r1 M _ _ _ _ _ zc_d3 ⟨pt_m0, pt_m0, pt_m0⟩ ⟨fun g => ?_, fun g => ?_, trivial⟩
    · have g1 : 0 ≤ r1 87 := g.1
      have g2 : r1 87 ≤ 0 := g.2.1
      refine fin 1 (pt_up r1 [(728, gz_k 1)]) ?_ rfl (fun t a => if_neg (by show ¬ t = 728; omega))
      unfold zc_vw
      rw [if_pos (by omega)]
    · have g1 : 1 ≤ r1 87 := g.1
      refine fin (r1 72 + 1) (pt_up r1 [(728, gz_d 72 1)]) ?_ rfl (fun t a => if_neg (by show ¬ t = 728; omega))
      unfold zc_vw
      rw [if_neg (by omega), eL]
  | succ d ih =>
    intro m r1 hd e1 f1
    refine henv _ _ _ _ _ (fun hE1 _ => ?_)
    have bP := ze_eb hE1 (List.all_eq_true.mp zc_bd.2 m (List.mem_range.mpr (by omega)))
    obtain ⟨a, ha⟩ : ∃ a : Nat, r1 (133 + m) = (a : Int) := ⟨(r1 (133 + m)).toNat, by omega⟩
    have eP : r1 (133 + m) = r (133 + m) := f1 _ (by omega) (by unfold zc_nP; omega)
    refine hseg _ _ _ _ _ r1 M _ _ _ _ _ (List.all_eq_true.mp (List.all_eq_true.mp zc_d2 m (List.mem_range.mpr (by omega))) a (List.mem_range.mpr (by omega))) ⟨pt_m1 ha, pt_m0, pt_m0⟩ ⟨fun _ => ?_, trivial⟩
    obtain ⟨r2, hr2⟩ : ∃ r2, r2 = pt_up r1 [(133 + m, gz_k (.ofNat a)), (566 + a, [(0, 566 + a, 0), (0, 562 + m, 0), (2, 0, 0)])] := ⟨_, rfl⟩
    show P (28, 0, 0) (zc_fL (wa_k (m + 1)) wa_u) [] (pt_up r1 [(133 + m, gz_k (.ofNat a)), (566 + a, [(0, 566 + a, 0), (0, 562 + m, 0), (2, 0, 0)])]) M
    rw [← hr2]
    have v2 : ∀ t, r2 t = if t = 133 + m then (a : Int) else if t = 566 + a then ai_op 0 (r1 (566 + a)) (r1 (562 + m)) else r1 t := fun t => by
      rw [hr2]
      rfl
    refine ih (m + 1) r2 (by omega) (fun p hp => ?_) (fun t b c => ?_)
    · show r2 (566 + p) = if r (133 + m) = (p : Int) then ai_op 0 (zc_pu r (fun k => r (562 + k)) m p) (r (562 + m)) else zc_pu r (fun k => r (562 + k)) m p
      rw [v2, if_neg (by omega), ← eP, ha]
      by_cases q : p = a
      · rw [if_pos (by omega), if_pos (by omega), ← q, e1 p hp, f1 (562 + m) (by omega) (by unfold zc_nP; omega)]
      · rw [if_neg (by omega), if_neg (by omega)]
        exact e1 p hp
    · rw [v2]
      by_cases q : t = 133 + m
      · rw [if_pos q, q, ← eP, ha]
      · unfold zc_nP at c
        rw [if_neg q, if_neg (by omega)]
        exact f1 t b (by unfold zc_nP; exact c)
end ZCF
theorem zc_fM {n : Nat} (hn : 4 ≤ n) : pt_Met (n + 1 + 1) 14 zxY [wa_r 87] (fun _ _ => True) (fun r M r2 M2 o => ((o = some 1 ∧ zc_ft r (fun k => r (562 + k))) ∨ (o = some 0 ∧ ¬ zc_ft r (fun k => r (562 + k)))) ∧ (∀ t, t < 727 → zc_nP t → r2 t = r t) ∧ M2 = M) 1 := by
  refine pt_intro (L0 := zc_fL wa_u wa_u) zc_fk.2.2.1 (by omega) zxsys (by
    rw [zc_fk.2.1.2]
    rfl) (fun P r M h _ => ?_)
  have h' := h
  obtain ⟨hseg, henv, -⟩ := h'
  refine hseg _ _ _ _ _ r M _ _ _ _ _ zc_d1 ⟨pt_m0, pt_m0, pt_m0⟩ ⟨fun _ => ?_, trivial⟩
  obtain ⟨r2, hr2⟩ : ∃ r2, r2 = pt_up r [(566, [(1, 0, 0), (0, 411, 0), (2, 1, 0)]), (566 + 1, [(1, 0, 0), (0, 411 + 1, 0), (2, 1, 0)]), (566 + 2, [(1, 0, 0), (0, 411 + 2, 0), (2, 1, 0)]), (566 + 3, [(1, 0, 0), (0, 411 + 3, 0), (2, 1, 0)])] := ⟨_, rfl⟩
  show P (28, 0, 0) (zc_fL (wa_k 0) wa_u) [] (pt_up r [(566, [(1, 0, 0), (0, 411, 0), (2, 1, 0)]), (566 + 1, [(1, 0, 0), (0, 411 + 1, 0), (2, 1, 0)]), (566 + 2, [(1, 0, 0), (0, 411 + 2, 0), (2, 1, 0)]), (566 + 3, [(1, 0, 0), (0, 411 + 3, 0), (2, 1, 0)])]) M
  rw [← hr2]
  have v2 : ∀ t, r2 t = if t = 566 then ai_op 1 0 (r 411) else if t = 566 + 1 then ai_op 1 0 (r (411 + 1)) else if t = 566 + 2 then ai_op 1 0 (r (411 + 2)) else if t = 566 + 3 then ai_op 1 0 (r (411 + 3)) else r t := fun t => by
    rw [hr2]
    rfl
  refine zc_mloop h hn (fun r3 b hb f3 => ⟨?_, f3, rfl⟩) 4 0 r2 rfl (fun p hp => ?_) (fun t a c => ?_)
  · rcases hb with ⟨hb, hc⟩ | ⟨hb, hc⟩
    · exact Or.inl ⟨congrArg some hb, hc⟩
    · exact Or.inr ⟨congrArg some hb, hc⟩
  · rcases (by omega : p = 0 ∨ p = 1 ∨ p = 2 ∨ p = 3) with rfl | rfl | rfl | rfl
    · rw [v2, if_pos rfl]
      rfl
    · rw [v2, if_neg (by omega), if_pos rfl]
      rfl
    · rw [v2, if_neg (by omega), if_neg (by omega), if_pos rfl]
      rfl
    · rw [v2, if_neg (by omega), if_neg (by omega), if_neg (by omega), if_pos rfl]
      rfl
  · unfold zc_nP at c
    rw [v2, if_neg (by omega), if_neg (by omega), if_neg (by omega), if_neg (by omega)]
