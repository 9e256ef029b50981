/-! ASKED (the class): a QUARTER is looked at -/
noncomputable def op_xZ (q k p : Nat) : pt_X := if k = p + 1 then [(0, 169 + 4 * p + q, 0), (1, 0, 1), (2, 0, 0)] else [(0, 169 + 4 * p + q, 0)]
noncomputable def op_tZ (q k : Nat) : pt_X := op_xZ q k 0 ++ (op_xZ q k 1 ++ ((2, 0, 0) :: (op_xZ q k 2 ++ ((2, 0, 0) :: (op_xZ q k 3 ++ [(2, 0, 0)])))))
/-- a place's LOAD, with one more at a place (k = p + 1) -/
noncomputable def op_lZ (r : Nat → Int) (q k p : Nat) : Int := if k = p + 1 then ai_op 0 (r (169 + 4 * p + q)) 1 else r (169 + 4 * p + q)
noncomputable def op_TZ (r : Nat → Int) (q k : Nat) : Int := ai_op 0 (ai_op 0 (ai_op 0 (op_lZ r q k 0) (op_lZ r q k 1)) (op_lZ r q k 2)) (op_lZ r q k 3)
theorem op_xvZ {r : Nat → Int} {q k : Nat} (hk : k < 5) : (∀ p, p < 4 → pt_v r (op_xZ q k p) = op_lZ r q k p) ∧ pt_v r (op_tZ q k) = op_TZ r q k := by
  rcases (by omega : k = 0 ∨ k = 1 ∨ k = 2 ∨ k = 3 ∨ k = 4) with rfl | rfl | rfl | rfl | rfl <;> exact ⟨fun p hp => by rcases (by omega : p = 0 ∨ p = 1 ∨ p = 2 ∨ p = 3) with rfl | rfl | rfl | rfl <;> rfl, rfl⟩
noncomputable def op_WZ (q k : Nat) : List (Nat × pt_X) := [(44, gz_k (.ofNat q)), (45, op_tZ q k), (411, op_xZ q k 0), (411 + 1, op_xZ q k 1), (411 + 2, op_xZ q k 2), (411 + 3, op_xZ q k 3)]
noncomputable def op_LZ (q k : Nat) (i : ai_V) : List ai_V := [wa_r 87, wa_k q, .inl (0, (k : Int) - 1), i]
noncomputable abbrev op_rZ (st : List Nat) (sk : Bool) (pc : Nat) (L S : List ai_V) (cp : List (Nat × Int × Int)) (pc2 : Nat) (L2 S2 : List ai_V) (W : List (Nat × pt_X)) : Bool := pt_row zxY 4 st sk (pc, 0, 0) L S [] cp [] [89, 95] [((pc2, 0, 0), (L2, S2), W, [])]
theorem op_c1Z : (List.range 4).all (fun q => (List.range 5).all (fun k => op_rZ [66] true 0 (op_LZ q k wa_u) [] [] 66 (op_LZ q k (wa_k 0)) [] (op_WZ q k))) = true := by decide +kernel
theorem op_c2Z : (List.range 4).all (fun q => (List.range 5).all (fun k => (List.range 4).all (fun m => (op_rZ [79, 109] true 66 (op_LZ q k (wa_k m)) [] [] 79 (op_LZ q k (wa_k m)) [wa_k 0, wa_k 0, wa_r (91 + m)] [] && op_rZ [66, 100] false 80 (op_LZ q k (wa_k m)) [] [(73, (.ofNat (m + 1), 4))] 100 (op_LZ q k (wa_k m)) [wa_k m, wa_r 87] [(415 + m, gz_k 0)]) && (op_rZ [66, 100] false 80 (op_LZ q k (wa_k m)) [] [(73, (0, .ofNat m))] 66 (op_LZ q k (wa_k (m + 1))) [] [(415 + m, gz_k 0)] && op_rZ [66] false 103 (op_LZ q k (wa_k m)) [] [] 66 (op_LZ q k (wa_k (m + 1))) [] [])) && op_rZ [79, 109] true 66 (op_LZ q k (wa_k 4)) [] [] 109 (op_LZ q k (wa_k 4)) [] [])) = true := by decide +kernel
theorem op_kZ : (List.range 4).all (fun q => (List.range 5).all (fun k => (List.range 4).all (fun m => cy_vk 4 100 5 zxY.2.1 [wa_k m, wa_r 87] [wa_r 87, wa_k m] [] && pt_cck zxY 4 5 (100, 0, 0) 0 807 (op_LZ q k (wa_k m)) [] [wa_r 87, wa_k m] am_aZ))) = true ∧ ((List.range 4).all (fun m => pt_sck zxY 4 79 2 (91 + m) 8 0) = true ∧ pt_is 7 4 109 = true ∧ (ct_mt 4).2.2.1 = 4) ∧ lh_plain 4 = true ∧ ct_bud 4 = (0, 0) := by decide +kernel
theorem op_bdZ : (73, ((0 : Int), (4 : Int))) ∈ zxE.2.1 := by decide +kernel
/-- the four offers -/
noncomputable def op_OZ (l : Nat → List Int) (r : Nat → Int) (M : Nat → Nat → Int) : Prop := ∀ v, v < 4 → r (aw_oZ v) = ((l v).length : Int) ∧ ∀ j, j < (l v).length → M (47 + 6 * v) j = (l v).getD j 0
noncomputable def op_wfZ (l : Nat → List Int) : Prop := ∀ v, v < 4 → (l v).length ≤ 200 ∧ av_okZ (l v) 0
noncomputable def op_nZ (r : Nat → Int) (q T : Int) (l : Nat → List Int) (v : Nat) : Nat := if (v : Int) < r 73 then am_nZ (am_AZ r q T v (l v)) (r (145 + v)).toNat else 0
/-- what is told of a mill -/
noncomputable def op_DZ (r : Nat → Int) (q T : Int) (l : Nat → List Int) (v : Nat) (r2 : Nat → Int) (M2 : Nat → Nat → Int) : Prop := r2 (415 + v) = (op_nZ r q T l v : Int) ∧ ∀ j, j ≤ op_nZ r q T l v → M2 (91 + v) j = am_SZ (am_AZ r q T v (l v)) j
noncomputable def op_chZ (t : Nat) : Prop := (t = 44 ∨ t = 45) ∨ (411 ≤ t ∧ t < 411 + 4) ∨ ∃ v, v < 4 ∧ am_chZ v t
noncomputable def op_QZ (q k : Nat) (l : Nat → List Int) (r : Nat → Int) (M : Nat → Nat → Int) (r2 : Nat → Int) (M2 : Nat → Nat → Int) (o : Option Int) : Prop := o = none ∧ ((r2 44 = (q : Int) ∧ r2 45 = op_TZ r q k) ∧ ∀ p, p < 4 → r2 (411 + p) = op_lZ r q k p) ∧ (∀ v, v < 4 → op_DZ r (q : Int) (op_TZ r q k) l v r2 M2) ∧ (∀ t, t < 727 → ¬ op_chZ t → r2 t = r t) ∧ ∀ z, (∀ v, v < 4 → z ≠ 49 + 6 * v ∧ z ≠ 91 + v) → M2 z = M z
section OPS
variable {n q k : Nat} {Z : (Nat → Int) → (Nat → Nat → Int) → Option Int → Prop} {P : pt_P} {l : Nat → List Int} {r0 : Nat → Int} {M0 : Nat → Nat → Int} {T : Int}
theorem op_loopZ (h : pt_Cl (n + 1 + 1 + 1 + 1) 4 zxY 0 Z P) (hn : 4 ≤ n) (hq : q < 4) (hk : k < 5) (hw : op_wfZ l) (hO : op_OZ l r0 M0) (hQ : r0 44 = (q : Int)) (hT : r0 45 = T)
    (hz : ∀ r2 M2, (∀ v, v < 4 → op_DZ r0 (q : Int) T l v r2 M2) → (∀ t, t < 727 → (∀ v, v < 4 → ¬ am_chZ v t) → r2 t = r0 t) → (∀ z, (∀ v, v < 4 → z ≠ 49 + 6 * v ∧ z ≠ 91 + v) → M2 z = M0 z) → Z r2 M2 none) :
    ∀ (d m : Nat) (r : Nat → Int) (M : Nat → Nat → Int), m + d = 4 → (∀ v, v < m → op_DZ r0 (q : Int) T l v r M) → (∀ t, t < 727 → (∀ v, v < m → ¬ am_chZ v t) → r t = r0 t) → (∀ z, (∀ v, v < m → z ≠ 49 + 6 * v ∧ z ≠ 91 + v) → M z = M0 z) → P (66, 0, 0) (op_LZ q k (wa_k m)) [] r M := by
  have h' := h
  obtain ⟨hseg, henv, -, -, -, -, hst, -, hcall, -, -, -, -, hvret⟩ := h'
  have rows := List.all_eq_true.mp (List.all_eq_true.mp op_c2Z q (List.mem_range.mpr hq)) k (List.mem_range.mpr hk)
  rw [Bool.and_eq_true] at rows
  intro d
  induction d with
  | zero =>
    intro m r M hm h1 h2 h3
    have em : m = 4 := by omega
    subst em
    refine hseg _ _ _ _ _ r M _ _ _ _ _ rows.2 ⟨pt_m0, pt_m0, pt_m0⟩ ⟨fun _ => ?_, trivial⟩
    exact hvret (109, 0, 0) _ r M rfl op_kZ.2.1.2.1 (by decide +kernel) (by decide +kernel) (hz r M h1 h2 h3)
  | succ d ih =>
    intro m r M hm h1 h2 h3
    have m4 : m < 4 := by omega
    have rw4 := List.all_eq_true.mp rows.1 m (List.mem_range.mpr m4)
    simp only [Bool.and_eq_true] at rw4
    obtain ⟨⟨c1, c2⟩, c3, c4⟩ := rw4
    have ck := List.all_eq_true.mp (List.all_eq_true.mp (List.all_eq_true.mp op_kZ.1 q (List.mem_range.mpr hq)) k (List.mem_range.mpr hk)) m (List.mem_range.mpr m4)
    rw [Bool.and_eq_true] at ck
    have cs := List.all_eq_true.mp op_kZ.2.1.1 m (List.mem_range.mpr m4)
    -- numbers that no mill's asking changes
    have nch : ∀ t, (t = 73 ∨ t = 44 ∨ t = 45 ∨ (∃ v, v < 4 ∧ (t = aw_oZ v ∨ t = 145 + v ∨ t = 149 + v))) → t < 727 ∧ ∀ v, ¬ (v < 4 ∧ am_chZ v t) := fun t ht => by
      unfold am_chZ aw_oZ pu_dZ at *
      rcases ht with rfl | rfl | rfl | ⟨w, hw, ht⟩
      · exact ⟨by omega, fun v hv => by omega⟩
      · exact ⟨by omega, fun v hv => by omega⟩
      · exact ⟨by omega, fun v hv => by omega⟩
      · refine ⟨by omega, fun v hv => ?_⟩
        obtain ⟨hv, e⟩ := hv
        rcases ht with rfl | rfl | rfl <;> omega
    have keep : ∀ t, (t = 73 ∨ t = 44 ∨ t = 45 ∨ (∃ v, v < 4 ∧ (t = aw_oZ v ∨ t = 145 + v ∨ t = 149 + v))) → r t = r0 t := fun t ht => h2 t (nch t ht).1 (fun v hv c => (nch t ht).2 v ⟨by omega, c⟩)
    have eMI : r 73 = r0 73 := keep _ (Or.inl rfl)
    refine hseg _ _ _ _ _ r M _ _ _ _ _ c1 ⟨pt_m0, pt_m0, pt_m0⟩ ⟨fun _ => ?_, trivial⟩
    refine henv _ _ _ _ _ (fun hE _ => ?_)
    have h0 : r 0 = 0 := hE.1
    have bMI : (0 : Int) ≤ r 73 ∧ r 73 ≤ 4 := (hE.2.2.2.1 _ op_bdZ).2
    refine hst (79, 0, 0) _ [] r M (91 + m) 8 0 (0, 0) (0, 0) cs (by omega) (by show r 0 + 0 = _; rw [h0]; rfl) ?_
    have ev : ai_vx r (0, 0) = 0 := by
      show r 0 + 0 = 0
      rw [h0]
      rfl
    rw [ev]
    obtain ⟨M1, hM1⟩ : ∃ M1, M1 = pt_sto M (91 + m) 0 0 := ⟨_, rfl⟩
    show P (80, 0, 0) (op_LZ q k (wa_k m)) [] r (pt_sto M (91 + m) 0 0)
    rw [← hM1]
    have M1o : ∀ z, z ≠ 91 + m → M1 z = M z := fun z hz' => by
      rw [hM1]
      funext x
      exact if_neg (fun w => hz' w.1)
    have M10 : M1 (91 + m) 0 = 0 := by
      rw [hM1]
      exact if_pos ⟨rfl, rfl⟩
    obtain ⟨r1, hr1⟩ : ∃ r1, r1 = pt_up r [(415 + m, gz_k 0)] := ⟨_, rfl⟩
    have v1 : ∀ t, r1 t = if t = 415 + m then 0 else r t := fun t => by
      rw [hr1]
      rfl
    have dm : am_chZ m (415 + m) := Or.inr (Or.inl rfl)
    by_cases w : (m : Int) < r 73
    · refine hseg _ _ _ _ _ r M1 _ _ _ _ _ c2 ⟨pt_m0, pt_m1 ⟨by show ((m + 1 : Nat) : Int) ≤ r 73; omega, by show r 73 ≤ 4; omega⟩, pt_m0⟩ ⟨fun _ => ?_, trivial⟩
      show P (100, 0, 0) (op_LZ q k (wa_k m)) [wa_k m, wa_r 87] (pt_up r [(415 + m, gz_k 0)]) M1
      rw [← hr1]
      have h10 : r1 0 = 0 := by rw [v1, if_neg (by omega), h0]
      obtain ⟨r6, hr6⟩ : ∃ r6, r6 = pt_up r1 (pt_wc [wa_r 87, wa_k m] am_aZ) := ⟨_, rfl⟩
      have v6 : ∀ t, r6 t = if t = 727 then (m : Int) else r1 t := fun t => by
        rw [hr6]
        rfl
      obtain ⟨w1, w2⟩ := hw m m4
      obtain ⟨o1, o2⟩ := hO m m4
      refine hcall (100, 0, 0) _ _ _ _ _ r1 M1 5 0 807 _ _ am_kZ.2.2.1 ck.1 ck.2 (am_MZ (n := n) (v := m) (l := l m) hn m4 w1 w2) (by
        rw [← hr6]
        refine ⟨⟨?_, ?_, M10⟩, ?_, fun j hj => ?_⟩
        · rw [v6, if_pos rfl]
        · rw [v6, if_neg (by omega), v1, if_pos rfl]
        · rw [v6, if_neg (by unfold aw_oZ; omega), v1, if_neg (by unfold aw_oZ; omega), keep _ (Or.inr (Or.inr (Or.inr ⟨m, m4, Or.inl rfl⟩)))]
          exact o1
        · rw [M1o _ (by omega), h3 _ (fun v hv => ⟨by omega, by omega⟩)]
          exact o2 j hj) (fun r7 M7 o hq7 => ?_)
      rw [← hr6] at hq7
      obtain ⟨rc, rs⟩ := wa_rm (n := n + 1 + 1 + 1 + 1) am_kZ.2.2.2
      rw [rc, rs]
      obtain ⟨rfl, y1, y2, y3⟩ := hq7
      have e6 : ∀ t, t < 727 → t ≠ 415 + m → r6 t = r t := fun t a b => by rw [v6, if_neg (by omega), v1, if_neg b]
      have k6 : ∀ t, (t = 73 ∨ t = 44 ∨ t = 45 ∨ (∃ v, v < 4 ∧ (t = aw_oZ v ∨ t = 145 + v ∨ t = 149 + v))) → r6 t = r0 t := fun t ht => by
        rw [e6 t (nch t ht).1 (fun e => (nch t ht).2 m ⟨m4, by rw [e]; exact dm⟩)]
        exact keep t ht
      have eA : am_AZ r6 (r6 44) (r6 45) m (l m) = am_AZ r0 (q : Int) T m (l m) := by
        unfold am_AZ
        funext u
        refine congrArg (fun V => av_askZ V (l m)) ?_
        funext j
        unfold aVZ
        rw [k6 44 (Or.inr (Or.inl rfl)), k6 45 (Or.inr (Or.inr (Or.inl rfl))), k6 (149 + m) (Or.inr (Or.inr (Or.inr ⟨m, m4, Or.inr (Or.inr rfl)⟩))), k6 (145 + m) (Or.inr (Or.inr (Or.inr ⟨m, m4, Or.inr (Or.inl rfl)⟩))), hQ, hT]
      have emo : (r6 (145 + m)).toNat = (r0 (145 + m)).toNat := by rw [k6 (145 + m) (Or.inr (Or.inr (Or.inr ⟨m, m4, Or.inr (Or.inl rfl)⟩)))]
      rw [eA, emo] at y1
      obtain ⟨r8, hr8⟩ : ∃ r8, r8 = pt_mrg 727 r1 r7 807 none := ⟨_, rfl⟩
      show P (103, 0, 0) (op_LZ q k (wa_k m)) [] (pt_mrg 727 r1 r7 807 none) _
      rw [← hr8]
      have lo8 : ∀ t, t < 727 → r8 t = r7 t := fun t ht => by
        rw [hr8]
        exact wa_mlt ht
      have f8 : ∀ t, t < 727 → ¬ am_chZ m t → r8 t = r t := fun t a b => by rw [lo8 t a, y2 t a b, e6 t a (fun e => b (by rw [e]; exact dm))]
      have en : op_nZ r0 (q : Int) T l m = am_nZ (am_AZ r0 (q : Int) T m (l m)) (r0 (145 + m)).toNat := if_pos (by rw [← eMI]; exact w)
      refine hseg _ _ _ _ _ r8 M7 _ _ _ _ _ c4 ⟨pt_m0, pt_m0, pt_m0⟩ ⟨fun _ => ?_, trivial⟩
      refine ih (m + 1) r8 M7 (by omega) (fun v hv => ?_) (fun t a b => ?_) (fun z hz' => ?_)
      · by_cases e : v = m
        · subst e
          refine ⟨?_, fun j hj => ?_⟩
          · rw [lo8 _ (by omega), y1.1, en]
          · exact y1.2 j (by rw [← en]; exact hj)
        · obtain ⟨g1, g2⟩ := h1 v (by omega)
          refine ⟨(f8 _ (by omega) (by unfold am_chZ pu_dZ; omega)).trans g1, fun j hj => ?_⟩
          rw [y3 _ (by omega) (by omega), M1o _ (by omega)]
          exact g2 j hj
      · rw [f8 t a (b m (Nat.lt_succ_self m))]
        exact h2 t a (fun v hv => b v (by omega))
      · obtain ⟨z1, z2⟩ := hz' m (Nat.lt_succ_self m)
        rw [y3 z z1 z2, M1o z z2]
        exact h3 z (fun v hv => hz' v (by omega))
    · refine hseg _ _ _ _ _ r M1 _ _ _ _ _ c3 ⟨pt_m0, pt_m1 ⟨by show (0 : Int) ≤ r 73; omega, by show r 73 ≤ (m : Int); omega⟩, pt_m0⟩ ⟨fun _ => ?_, trivial⟩
      show P (66, 0, 0) (op_LZ q k (wa_k (m + 1))) [] (pt_up r [(415 + m, gz_k 0)]) M1
      rw [← hr1]
      have en : op_nZ r0 (q : Int) T l m = 0 := if_neg (by rw [← eMI]; exact w)
      refine ih (m + 1) r1 M1 (by omega) (fun v hv => ?_) (fun t a b => ?_) (fun z hz' => ?_)
      · by_cases e : v = m
        · subst e
          refine ⟨?_, fun j hj => ?_⟩
          · rw [v1, if_pos rfl, en]
            rfl
          · rw [en] at hj
            rw [show j = 0 by omega]
            exact M10
        · obtain ⟨g1, g2⟩ := h1 v (by omega)
          refine ⟨by rw [v1, if_neg (by omega)]; exact g1, fun j hj => ?_⟩
          rw [M1o _ (by omega)]
          exact g2 j hj
      · rw [v1, if_neg (fun e => b m (Nat.lt_succ_self m) (by rw [e]; exact dm))]
        exact h2 t a (fun v hv => b v (by omega))
      · obtain ⟨z1, z2⟩ := hz' m (Nat.lt_succ_self m)
        rw [M1o z z2]
        exact h3 z (fun v hv => hz' v (by omega))
end OPS
noncomputable def op_aZ : List ai_V := [wa_r 87, wa_i 727, wa_i 728]
theorem op_MZ {n q k : Nat} {l : Nat → List Int} (hn : 4 ≤ n) (hq : q < 4) (hk : k < 5) (hw : op_wfZ l) : pt_Met (n + 1 + 1 + 1 + 1 + 1) 4 zxY op_aZ (fun r M => (r 727 = (q : Int) ∧ r 728 = (k : Int) - 1) ∧ op_OZ l r M) (op_QZ q k l) 0 := by
  refine pt_intro (L0 := [wa_r 87, wa_i 727, wa_i 728, wa_u]) op_kZ.2.2.1 (by omega) zxsys (by
    rw [op_kZ.2.1.2.2]
    rfl) (fun P r M h hp => ?_)
  have h' := h
  obtain ⟨hseg, henv, hrel, -⟩ := h'
  obtain ⟨⟨p1, p2⟩, p3⟩ := hp
  refine henv _ _ _ _ _ (fun hE _ => ?_)
  have h0 : r 0 = 0 := hE.1
  refine hrel (0, 0, 0) _ (op_LZ q k wa_u) [] [] r M ⟨rfl, ⟨by show 0 < 827; omega, by show r 727 + 0 = r 0 + (q : Int); omega⟩, ⟨by show 0 < 827; omega, by show r 728 + 0 = r 0 + ((k : Int) - 1); omega⟩, trivial, trivial⟩ trivial ?_
  have row := List.all_eq_true.mp (List.all_eq_true.mp op_c1Z q (List.mem_range.mpr hq)) k (List.mem_range.mpr hk)
  refine hseg _ _ _ _ _ r M _ _ _ _ _ row ⟨pt_m0, pt_m0, pt_m0⟩ ⟨fun _ => ?_, trivial⟩
  obtain ⟨r2, hr2⟩ : ∃ r2, r2 = pt_up r (op_WZ q k) := ⟨_, rfl⟩
  show P (66, 0, 0) (op_LZ q k (wa_k 0)) [] (pt_up r (op_WZ q k)) M
  rw [← hr2]
  obtain ⟨x1, x2⟩ := op_xvZ (r := r) (q := q) hk
  have v2 : ∀ t, r2 t = if t = 44 then (q : Int) else if t = 45 then op_TZ r q k else if t = 411 then op_lZ r q k 0 else if t = 411 + 1 then op_lZ r q k 1 else if t = 411 + 2 then op_lZ r q k 2 else if t = 411 + 3 then op_lZ r q k 3 else r t := fun t => by
    rw [hr2, ← x2, ← x1 0 (by omega), ← x1 1 (by omega), ← x1 2 (by omega), ← x1 3 (by omega)]
    rfl
  have f2 : ∀ t, t ≠ 44 → t ≠ 45 → ¬ (411 ≤ t ∧ t < 411 + 4) → r2 t = r t := fun t a b c => by
    rw [v2, if_neg a, if_neg b, if_neg (by omega), if_neg (by omega), if_neg (by omega), if_neg (by omega)]
  have eMI : r2 73 = r 73 := f2 _ (by omega) (by omega) (by omega)
  have eA : ∀ v, v < 4 → am_AZ r2 (q : Int) (op_TZ r q k) v (l v) = am_AZ r (q : Int) (op_TZ r q k) v (l v) ∧ r2 (145 + v) = r (145 + v) := fun v hv => by
    have eK : r2 (149 + v) = r (149 + v) := f2 _ (by omega) (by omega) (by omega)
    have eM : r2 (145 + v) = r (145 + v) := f2 _ (by omega) (by omega) (by omega)
    refine ⟨?_, eM⟩
    unfold am_AZ
    funext u
    refine congrArg (fun V => av_askZ V (l v)) ?_
    funext j
    unfold aVZ
    rw [eK, eM]
  have eD : ∀ v, v < 4 → ∀ r3 M3, op_DZ r2 (q : Int) (op_TZ r q k) l v r3 M3 → op_DZ r (q : Int) (op_TZ r q k) l v r3 M3 := fun v hv r3 M3 g => by
    obtain ⟨e1, e2⟩ := eA v hv
    unfold op_DZ op_nZ at g ⊢
    rw [e1, e2, eMI] at g
    exact g
  have nv : ∀ v, v < 4 → ¬ am_chZ v 44 ∧ ¬ am_chZ v 45 ∧ ∀ p, p < 4 → ¬ am_chZ v (411 + p) := fun v hv => by
    unfold am_chZ pu_dZ
    exact ⟨by omega, by omega, fun p hp => by omega⟩
  refine op_loopZ (n := n) (r0 := r2) (M0 := M) (T := op_TZ r q k) h hn hq hk hw (fun v hv => ?_) ?_ ?_ (fun r3 M3 g1 g2 g3 => ⟨rfl, ⟨⟨?_, ?_⟩, fun p hp => ?_⟩, fun v hv => eD v hv r3 M3 (g1 v hv), fun t a b => ?_, g3⟩) 4 0 r2 M rfl (fun v hv => absurd hv (Nat.not_lt_zero v)) (fun _ _ _ => rfl) (fun _ _ => rfl)
  · obtain ⟨o1, o2⟩ := p3 v hv
    exact ⟨(f2 _ (by unfold aw_oZ; omega) (by unfold aw_oZ; omega) (by unfold aw_oZ; omega)).trans o1, o2⟩
  · rw [v2, if_pos rfl]
  · rw [v2, if_neg (by omega), if_pos rfl]
  · rw [g2 _ (by omega) (fun v hv => (nv v hv).1), v2, if_pos rfl]
  · rw [g2 _ (by omega) (fun v hv => (nv v hv).2.1), v2, if_neg (by omega), if_pos rfl]
  · rw [g2 _ (by omega) (fun v hv => (nv v hv).2.2 p hp), v2]
    rcases (by omega : p = 0 ∨ p = 1 ∨ p = 2 ∨ p = 3) with rfl | rfl | rfl | rfl
    · rw [if_neg (by omega), if_neg (by omega), if_pos rfl]
    · rw [if_neg (by omega), if_neg (by omega), if_neg (by omega), if_pos rfl]
    · rw [if_neg (by omega), if_neg (by omega), if_neg (by omega), if_neg (by omega), if_pos rfl]
    · rw [if_neg (by omega), if_neg (by omega), if_neg (by omega), if_neg (by omega), if_neg (by omega), if_pos rfl]
  · rw [g2 t a (fun v hv c => b (Or.inr (Or.inr ⟨v, hv, c⟩)))]
    exact f2 t (fun e => b (Or.inl (Or.inl e))) (fun e => b (Or.inl (Or.inr e))) (fun e => b (Or.inr (Or.inl e)))
/-! ASKED (the class): what is asked of a unit -/
noncomputable def ao_LZ (v : Nat) : List ai_V := [wa_r 87, wa_k v, wa_i 728]
noncomputable abbrev ao_rZ (st : List Nat) (sk : Bool) (pc : Nat) (v : Nat) (S : List ai_V) (cp : List (Nat × Int × Int)) (le : List (ai_X × ai_X)) (pc2 : Nat) (S2 : List ai_V) (W : List (Nat × pt_X)) : Bool := pt_row zxY 6 st sk (pc, 0, 0) (ao_LZ v) S [] cp le [] [((pc2, 0, 0), (ao_LZ v, S2), W, [])]
theorem ao_cZ : (List.range 4).all (fun v => (ao_rZ [31, 39] true 0 v [] [(728, (1, 7))] [((415 + v, 1), (728, 0))] 31 [.inl (0, -1)] [] && ao_rZ [31, 39] true 0 v [] [(728, (1, 7))] [((728, 0), (415 + v, 0))] 39 [wa_i 728, wa_r (91 + v)] []) && (ao_rZ [49] false 40 v [wa_i 807] [(728, (1, 7))] [] 49 [.inl (728, -1), wa_r (91 + v), wa_i 807] [] && ao_rZ [51] false 50 v [wa_i 809, wa_i 807] [] [] 51 [wa_i 807] [(807, [(0, 807, 0), (0, 809, 0), (2, 1, 0)])])) = true := by decide +kernel
theorem ao_kZ : (List.range 4).all (fun v => pt_lck zxY 6 39 1 (91 + v) 8 0 807 (ao_LZ v) [] && pt_lck zxY 6 49 1 (91 + v) 8 0 809 (ao_LZ v) [wa_i 807]) = true ∧ ((pt_is 5 6 31 = true ∧ pt_is 5 6 51 = true) ∧ (ct_mt 6).2.2.1 = 3) ∧ lh_plain 6 = true ∧ ct_bud 6 = (0, 0) := by decide +kernel
noncomputable def ao_aZ : List ai_V := [wa_r 87, wa_i 727, wa_i 728]
theorem ao_MZ {n v u N : Nat} {S : Nat → Int} (hn : 4 ≤ n) (hv : v < 4) (hu : 1 ≤ u ∧ u ≤ 7) : pt_Met (n + 1) 6 zxY ao_aZ (fun r M => (r 727 = (v : Int) ∧ r 728 = (u : Int)) ∧ r (415 + v) = (N : Int) ∧ ∀ j, j ≤ N → M (91 + v) j = S j) (fun r M r2 M2 o => o = some (if u ≤ N then ai_op 1 (S u) (S (u - 1)) else -1) ∧ (∀ t, t < 727 → r2 t = r t) ∧ M2 = M) 1 := by
  refine pt_intro (L0 := ao_aZ) ao_kZ.2.2.1 (by omega) zxsys (by
    rw [ao_kZ.2.1.2]
    rfl) (fun P r M h hp => ?_)
  have h' := h
  obtain ⟨hseg, henv, hrel, -, hld, -, -, -, -, -, hret, -⟩ := h'
  obtain ⟨⟨p1, p2⟩, p3, p4⟩ := hp
  refine henv _ _ _ _ _ (fun hE _ => ?_)
  have h0 : r 0 = 0 := hE.1
  refine hrel (0, 0, 0) _ (ao_LZ v) [] [] r M ⟨rfl, ⟨by show 0 < 827; omega, by show r 727 + 0 = r 0 + (v : Int); omega⟩, ⟨by show 728 < 827; omega, rfl⟩, trivial⟩ trivial ?_
  have rows := List.all_eq_true.mp ao_cZ v (List.mem_range.mpr hv)
  simp only [Bool.and_eq_true] at rows
  obtain ⟨⟨c1, c2⟩, c3, c4⟩ := rows
  have ck := List.all_eq_true.mp ao_kZ.1 v (List.mem_range.mpr hv)
  rw [Bool.and_eq_true] at ck
  have b1 : ∀ r2 : Nat → Int, r2 728 = (u : Int) → (1 : Int) ≤ r2 728 ∧ r2 728 ≤ 7 := fun r2 e => by omega
  by_cases w : u ≤ N
  · refine hseg _ _ _ _ _ r M _ _ _ _ _ c2 ⟨pt_m0, pt_m1 (b1 r p2), pt_m1 (by show r 728 + 0 ≤ r (415 + v) + 0; omega)⟩ ⟨fun _ => ?_, trivial⟩
    refine hld (39, 0, 0) _ [] r M (91 + v) 8 807 u (728, 0) ck.1 (by omega) (by show r 728 + 0 = _; omega) ?_
    rw [p4 u w]
    obtain ⟨r1, hr1⟩ : ∃ r1, r1 = pt_set r 807 (S u) := ⟨_, rfl⟩
    show P (40, 0, 0) (ao_LZ v) [wa_i 807] (pt_set r 807 (S u)) M
    rw [← hr1]
    have n1 : ∀ t, t ≠ 807 → r1 t = r t := fun t x => by
      rw [hr1]
      exact if_neg x
    have s1 : r1 807 = S u := by
      rw [hr1]
      exact gz_sset
    have e1 : r1 728 = (u : Int) := (n1 _ (by omega)).trans p2
    refine hseg _ _ _ _ _ r1 M _ _ _ _ _ c3 ⟨pt_m0, pt_m1 (b1 r1 e1), pt_m0⟩ ⟨fun _ => ?_, trivial⟩
    refine hld (49, 0, 0) _ [wa_i 807] r1 M (91 + v) 8 809 (u - 1) (728, -1) ck.2 (by omega) (by show r1 728 + -1 = _; omega) ?_
    rw [p4 (u - 1) (by omega)]
    obtain ⟨r2, hr2⟩ : ∃ r2, r2 = pt_set r1 809 (S (u - 1)) := ⟨_, rfl⟩
    rw [← hr2]
    have n2 : ∀ t, t ≠ 809 → r2 t = r1 t := fun t x => by
      rw [hr2]
      exact if_neg x
    have s2 : r2 809 = S (u - 1) := by
      rw [hr2]
      exact gz_sset
    refine hseg _ _ _ _ _ r2 M _ _ _ _ _ c4 ⟨pt_m0, pt_m0, pt_m0⟩ ⟨fun _ => ?_, trivial⟩
    obtain ⟨r3, hr3⟩ : ∃ r3, r3 = pt_up r2 [(807, [(0, 807, 0), (0, 809, 0), (2, 1, 0)])] := ⟨_, rfl⟩
    show P (51, 0, 0) (ao_LZ v) [.inl (807, 0)] (pt_up r2 [(807, [(0, 807, 0), (0, 809, 0), (2, 1, 0)])]) M
    rw [← hr3]
    have v3 : ∀ t, r3 t = if t = 807 then ai_op 1 (r2 807) (r2 809) else r2 t := fun t => by
      rw [hr3]
      rfl
    refine hret (51, 0, 0) _ (807, 0) r3 M rfl ao_kZ.2.1.1.2 (by decide +kernel) (by decide +kernel) ⟨congrArg some ?_, fun t a => ?_, rfl⟩
    · show r3 807 + 0 = _
      rw [if_pos w, Int.add_zero, v3, if_pos rfl, n2 _ (by omega), s1, s2]
    · rw [v3, if_neg (by omega), n2 t (by omega), n1 t (by omega)]
  · refine hseg _ _ _ _ _ r M _ _ _ _ _ c1 ⟨pt_m0, pt_m1 (b1 r p2), pt_m1 (by show r (415 + v) + 1 ≤ r 728 + 0; omega)⟩ ⟨fun _ => ?_, trivial⟩
    refine hret (31, 0, 0) _ (0, -1) r M rfl ao_kZ.2.1.1.1 (by decide +kernel) (by decide +kernel) ⟨congrArg some ?_, fun _ _ => rfl, rfl⟩
    show r 0 + -1 = _
    rw [if_neg w, h0]
    rfl
