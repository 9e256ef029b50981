/-! THE LEAST (the reference): leastOf -/
theorem zl_M {n q K : Nat} {on w x : Int} {l : Nat → List Int} {F : (Nat → Int) → Bool} (hn : 4 ≤ n) (hq : q < 4) (hw : 0 ≤ w ∧ w ≤ 7) (hx : -1 ≤ x ∧ x ≤ 3) (hg : ∀ m, m < 4 → ps_gc (l m)) : pt_Met (n + 1 + 1 + 1 + 1 + 1 + 1 + 1) 220 zyY zt_a (zl_P q K on w x l F) (zl_Q q K on w x l F) 1 := by
  refine pt_intro (L0 := [wa_r 264, wa_i 727, wa_i 728, wa_i 729, wa_i 730, wa_u]) zl_k.2.2.1 (by omega) zysys (by
    rw [zl_k.2.1.2]
    rfl) (fun P r M h hp => ?_)
  have h' := h
  obtain ⟨hseg, henv, hrel, -, -, -, -, -, hcall, -, hret, -⟩ := h'
  obtain ⟨⟨⟨p0, p1⟩, p2, p3⟩, hJ, pF⟩ := hp
  have hJ' := hJ
  obtain ⟨⟨jz, jl⟩, ⟨jI, jm⟩, jp⟩ := hJ'
  refine henv _ _ _ _ _ (fun hE _ => ?_)
  have h0 : r 0 = 0 := hE.1
  have bP := ze_eb hE zr_bd.1.2
  have bI := ze_eb hE zw_bd
  have hK : K ≤ 4 := by omega
  have hb : ∀ m, m < 4 → (r (141 + m) ≤ 2 ∧ r (145 + m) ≤ 7) ∧ 0 ≤ r (149 + m) ∧ r (149 + m) ≤ 999 := fun m hm => by
    have bd := List.all_eq_true.mp zl_bd m (List.mem_range.mpr hm)
    rw [Bool.and_eq_true, Bool.and_eq_true] at bd
    exact ⟨⟨(ze_eb hE bd.1).2, (ze_eb hE bd.2.2).2⟩, ze_eb hE bd.2.1⟩
  have eT := zl_Te jl
  have l0 := jl 0 (by omega)
  have l1 := jl 1 (by omega)
  have l2 := jl 2 (by omega)
  have l3 := jl 3 (by omega)
  obtain ⟨T, hT⟩ : ∃ T, T = zl_T r q x := ⟨_, rfl⟩
  have bT : 0 ≤ T ∧ T ≤ 37 := by
    rw [hT]
    unfold zl_T
    rw [eT]
    split <;> omega
  have c1 := List.all_eq_true.mp zl_c1 q (List.mem_range.mpr hq)
  have c2 := List.all_eq_true.mp zl_c2 q (List.mem_range.mpr hq)
  have c3 := List.all_eq_true.mp zl_c3 q (List.mem_range.mpr hq)
  have c3b := List.all_eq_true.mp zl_c3b q (List.mem_range.mpr hq)
  have c4 := List.all_eq_true.mp zl_c4 q (List.mem_range.mpr hq)
  have c6 := List.all_eq_true.mp zl_c6 q (List.mem_range.mpr hq)
  have ck := List.all_eq_true.mp zl_k.1 q (List.mem_range.mpr hq)
  rw [Bool.and_eq_true] at c2
  rw [Bool.and_eq_true, Bool.and_eq_true, Bool.and_eq_true] at ck
  have u1 : ∀ t, pt_up r [(90, gz_k (-1))] t = if t = 90 then -1 else r t := fun t => rfl
  refine hrel (0, 0, 0) _ (zl_L q wa_u) [] [] r M ⟨rfl, ⟨by show 0 < 827; omega, by show r 727 + 0 = r 0 + (q : Int); omega⟩, ⟨by show 728 < 827; omega, rfl⟩, ⟨by show 729 < 827; omega, rfl⟩, ⟨by show 730 < 827; omega, rfl⟩, trivial, trivial⟩ trivial ?_
  obtain ⟨r1, hr1⟩ : ∃ r1, r1 = pt_up r [(90, gz_k (-1))] := ⟨_, rfl⟩
  refine hseg _ _ _ _ _ r M _ _ _ _ _ c1 ⟨pt_m0, pt_m0, pt_m0⟩ ⟨fun g => ?_, fun g => ?_, trivial⟩
  · have g : r 574 ≠ 0 := g.1
    have ev : zl_v r q on w x K l F = ze_go (zl_lo r on w K) (zl_hi r on w T q l K) (zl_C r T q l K) F K 0 T.toNat 0 (fun _ => 0) (-1, zl_s r) := by
      rw [hT]
      exact if_neg g
    show P (21, 0, 0) (zl_L q wa_u) [wa_k q, wa_r 264, wa_r 264] (pt_up r [(90, gz_k (-1))]) M
    rw [← hr1] at u1 ⊢
    refine henv _ _ _ _ _ (fun hE1 _ => ?_)
    -- the search
    have run : ∀ (r2 : Nat → Int) (M2 : Nat → Nat → Int), zl_X on w x r2 → (∀ m, m < K → zl_D r on w T q K l r2 M2 m) → (r2 91 = T ∧ r2 90 = -1) → (∀ p, p < 4 → r2 (723 + p) = zl_b r q x p) → (∀ k, k < 4 → r2 (712 + k) = r (712 + k)) → (∀ t, t < 727 → zl_n t → r2 t = r t) → (∀ z, z ≠ 292 → z ≠ 299 → M2 z = M z) → P (123, 0, 0) (zl_h q K) zl_gS r2 M2 := fun r2 M2 hX hD hA hO hB fr fM => by
      refine henv _ _ _ _ _ (fun hE2 _ => ?_)
      have xk : pt_v r2 (pt_xr (0, .ofNat 0)) = 0 := by
        rw [pt_xr_ok hE2.1]
        show r2 0 + 0 = 0
        rw [hE2.1]
        rfl
      have cg := List.all_eq_true.mp ck.2.2 K (List.mem_range.mpr (by omega))
      rw [Bool.and_eq_true] at cg
      have row := List.all_eq_true.mp c6 K (List.mem_range.mpr (by omega))
      rw [Bool.and_eq_true] at row
      obtain ⟨r6, hr6⟩ : ∃ r6, r6 = pt_up r2 (pt_wc zl_gA zg_a) := ⟨_, rfl⟩
      have v6 : ∀ t, r6 t = if t = 727 then 0 else if t = 728 then r2 91 else if t = 729 then 0 else r2 t := fun t => by
        have e : r6 t = if t = 727 then pt_v r2 (pt_xr (0, .ofNat 0)) else if t = 728 then r2 91 else if t = 729 then pt_v r2 (pt_xr (0, .ofNat 0)) else r2 t := by
          rw [hr6]
          rfl
        rw [e, xk]
      have l6 : ∀ t, t < 727 → r6 t = r2 t := fun t a => by rw [v6, if_neg (by omega), if_neg (by omega), if_neg (by omega)]
      have n6 : ∀ t, t < 727 → zl_n t → r6 t = r t := fun t a b => (l6 t a).trans (fr t a b)
      have hAb : ∀ m, m < 4 → ∀ u, zt_A r q T m (l m) u = -1 ∨ (0 ≤ zt_A r q T m (l m) u ∧ zt_A r q T m (l m) u ≤ 9999) := fun m hm u => av_ask_bZ (hb m hm).2
      have h7 : ∀ m, m < K → zt_h0 r on w q m ≤ 7 := fun m hm => zl_h7 (jm m hm).1.2.2.1.2 (hb m (by omega)).1.2 hw.2
      have hi7 : ∀ m, m < K → zl_hi r on w T q l K m ≤ 7 := fun m hm => by
        have e : zl_hi r on w T q l K m = am_nZ (zt_A r q T m (l m)) (zt_h0 r on w q m) := if_pos hm
        have a1 := am_n_leZ (A := zt_A r q T m (l m)) (zt_h0 r on w q m)
        have a2 := h7 m hm
        omega
      have hCb : ∀ m u, u ≤ zl_hi r on w T q l K m → 0 ≤ zl_C r T q l K m u ∧ zl_C r T q l K m u ≤ 69993 := fun m u hu => by
        by_cases c : m < K
        · have e : zl_C r T q l K m u = am_SZ (zt_A r q T m (l m)) u := if_pos c
          have e2 : zl_hi r on w T q l K m = am_nZ (zt_A r q T m (l m)) (zt_h0 r on w q m) := if_pos c
          have u7 := hi7 m c
          rw [e2] at hu
          have g := zl_Sb (hAb m (by omega)) (h7 m c) u hu
          rw [e]
          omega
        · have e : zl_C r T q l K m u = 0 := if_neg c
          rw [e]
          omega
      have zg6 := zg_d (n := n + (4 - K)) (K := K) (lo := zl_lo r on w K) (hi := zl_hi r on w T q l K) (C := zl_C r T q l K) (F := F) (b := zl_b r q x) (by omega) (d := K) (m := 0) (left := T.toNat) (sum := 0) (t := fun _ => 0) (s := (-1, zl_s r)) (by omega)
      rw [show n + (4 - K) + 1 + 1 + K = n + 1 + 1 + 1 + 1 + 1 + 1 by omega, ← ev] at zg6
      refine hcall (123, 0, 0) _ _ _ _ _ r2 M2 217 0 807 _ _ zg_k.2.2.1 cg.1 cg.2 zg6 (by
        rw [← hr6]
        refine ⟨⟨?_, ?_, ?_⟩, ⟨⟨⟨⟨?_, hK⟩, fun k hk => ⟨⟨?_, ?_⟩, hi7 k hk⟩⟩, fun k hk u hu => (hD k hk).2 u hu, hCb⟩, ?_, fun k hk => ?_⟩, fun z => (pF z).trans (zl_Fe hK bP.2 n6).symm, ⟨fun p hp => ⟨?_, fun hpl => ?_⟩, fun k hk => absurd hk (Nat.not_lt_zero k)⟩, ⟨⟨?_, fun k hk => ?_⟩, Or.inl rfl⟩, by omega, by omega, by omega⟩
        · rw [v6, if_pos rfl]
          rfl
        · rw [v6, if_neg (by omega), if_pos rfl, hA.1]
          omega
        · rw [v6, if_neg (by omega), if_neg (by omega), if_pos rfl]
        · rw [n6 _ (by omega) (by unfold zl_n; omega)]
          exact jI
        · rw [l6 _ (by omega)]
          exact (hD k hk).1.1
        · rw [l6 _ (by omega)]
          exact (hD k hk).1.2
        · rw [n6 71 (by omega) (by unfold zl_n; omega), n6 72 (by omega) (by unfold zl_n; omega)]
          exact jp
        · rw [n6 (133 + k) (by omega) (by unfold zl_n; omega), n6 71 (by omega) (by unfold zl_n; omega)]
          exact (jm k hk).2.1
        · rw [l6 _ (by omega)]
          exact hO p hp
        · rw [n6 71 (by omega) (by unfold zl_n; omega)] at hpl
          rw [l6 _ (by omega), hO p hp]
          have e : zl_b r q x p = 0 - r (169 + 4 * p + q) - (if x = (p : Int) then 1 else 0) := if_pos hpl
          have g := jl p hp
          rw [e]
          split <;> omega
        · rw [l6 _ (by omega)]
          exact hA.2
        · rw [l6 _ (by omega)]
          exact (hB k (by omega)).trans (if_pos (by omega)).symm) (fun r7 M7 o hq' => ?_)
      rw [← hr6] at hq'
      obtain ⟨rc, rs⟩ := wa_rm (n := n + 1 + 1 + 1 + 1 + 1 + 1) zg_k.2.2.2
      rw [rc, rs]
      obtain ⟨rfl, q1, -, q3, eM⟩ := hq'
      rw [eM]
      obtain ⟨r8, hr8⟩ : ∃ r8, r8 = pt_mrg 727 r2 r7 807 none := ⟨_, rfl⟩
      show P (126, 0, 0) (zl_h q K) [] (pt_mrg 727 r2 r7 807 none) M2
      rw [← hr8]
      have lo8 : ∀ t, t < 727 → r8 t = r7 t := fun t a => by
        rw [hr8]
        exact wa_mlt a
      have hBv : zc_B (zl_v r q on w x K l F) := by
        rw [ev]
        exact ze_bd hCb (by omega) (by omega) (Or.inl rfl)
      refine hseg _ _ _ _ _ r8 M2 _ _ _ _ _ row.2 ⟨pt_m0, pt_m0, pt_m0⟩ ⟨fun _ => ?_, trivial⟩
      refine hret (130, 0, 0) _ (90, 0) r8 M2 rfl zl_k.2.1.1.2 (by decide +kernel) (by decide +kernel) ⟨congrArg some ?_, ⟨⟨(lo8 _ (by omega)).trans q1.1, fun k hk => (lo8 _ (by omega)).trans (q1.2 k hk)⟩, hBv⟩, fun t a b => ?_, fM⟩
      · show r8 90 + 0 = _
        rw [Int.add_zero, lo8 _ (by omega)]
        exact q1.1
      · rw [lo8 t a, q3 t a (by unfold zl_n at b; unfold zg_st; omega)]
        exact n6 t a b
    -- what is put in ahead
    have key : ∀ (d i : Nat) (r2 : Nat → Int), i + d = 4 → (i : Int) ≤ r 71 → zl_X on w x r2 → (r2 91 = T ∧ r2 90 = -1) → (∀ p, p < i → r2 (723 + p) = zl_b r q x p) → (∀ t, t < 727 → t ≠ 91 → t ≠ 90 → ¬ (723 ≤ t ∧ t < 723 + i) → r2 t = r t) → P (42, 0, 0) (zl_h q i) [] r2 M := fun d => by
      have out : ∀ (i : Nat) (r2 : Nat → Int), i ≤ 4 → (i : Int) = r 71 → zl_X on w x r2 → (r2 91 = T ∧ r2 90 = -1) → (∀ p, p < i → r2 (723 + p) = zl_b r q x p) → (∀ t, t < 727 → t ≠ 91 → t ≠ 90 → ¬ (723 ≤ t ∧ t < 723 + i) → r2 t = r t) → P (42, 0, 0) (zl_h q i) [] r2 M := fun i r2 hi e hX hA hO fr => by
        have ePL : r2 71 = r 71 := fr _ (by omega) (by omega) (by omega) (by omega)
        refine hseg _ _ _ _ _ r2 M _ _ _ _ _ (List.all_eq_true.mp c4 i (List.mem_range.mpr (by omega))) ⟨pt_m0, pt_m1 ⟨by show (0 : Int) ≤ r2 71; omega, by show r2 71 ≤ (i : Int); omega⟩, pt_m0⟩ ⟨fun _ => ?_, trivial⟩
        have n2 : ∀ t, t < 727 → zl_n t → r2 t = r t := fun t a b => by
          unfold zl_n at b
          exact fr t a (by omega) (by omega) (by omega)
        refine zl_tl (r0 := r2) h hn hq hK hw hg hJ (fun m hm => (hb m hm).1) n2 hA.1 (fun r3 M3 hX3 hD3 f3 fM3 => ?_) K 0 r2 M (by omega) hX (fun m hm => absurd hm (Nat.not_lt_zero m)) (fun _ _ _ => rfl) (fun _ _ _ => rfl)
        refine run r3 M3 hX3 hD3 ⟨(f3 _ (by omega) (by unfold zl_m; omega)).trans hA.1, (f3 _ (by omega) (by unfold zl_m; omega)).trans hA.2⟩ (fun p hp => ?_) (fun k hk => ?_) (fun t a b => ?_) fM3
        · rw [f3 _ (by omega) (by unfold zl_m; omega)]
          by_cases c : p < i
          · exact hO p c
          · have e2 : zl_b r q x p = r (723 + p) := if_neg (by omega)
            rw [e2]
            exact fr _ (by omega) (by omega) (by omega) (by omega)
        · rw [f3 _ (by omega) (by unfold zl_m; omega)]
          exact fr _ (by omega) (by omega) (by omega) (by omega)
        · rw [f3 t a (by unfold zl_n at b; unfold zl_m; omega)]
          exact n2 t a b
      induction d with
      | zero => exact fun i r2 hd hi hX hA hO fr => out i r2 (by omega) (by omega) hX hA hO fr
      | succ d ih =>
        intro i r2 hd hi hX hA hO fr
        by_cases c : r 71 = (i : Int)
        · exact out i r2 (by omega) c.symm hX hA hO fr
        have hi4 : i < 4 := by omega
        have ePL : r2 71 = r 71 := fr _ (by omega) (by omega) (by omega) (by omega)
        have eL : r2 (169 + 4 * i + q) = r (169 + 4 * i + q) := fr _ (by omega) (by omega) (by omega) (by omega)
        have bl := jl i hi4
        have row := List.all_eq_true.mp c3 i (List.mem_range.mpr hi4)
        rw [Bool.and_eq_true] at row
        have nx : ∀ r3 : Nat → Int, (∀ t, r3 t = if t = 723 + i then zl_b r q x i else r2 t) → P (42, 0, 0) (zl_h q (i + 1)) [] r3 M := fun r3 v3 => by
          have n3 : ∀ t, t ≠ 723 + i → r3 t = r2 t := fun t a => by rw [v3, if_neg a]
          refine ih (i + 1) r3 (by omega) (by omega) ⟨⟨(n3 _ (by omega)).trans hX.1.1, (n3 _ (by omega)).trans hX.1.2⟩, (n3 _ (by omega)).trans hX.2⟩ ⟨(n3 _ (by omega)).trans hA.1, (n3 _ (by omega)).trans hA.2⟩ (fun p hp => ?_) (fun t a b e f => ?_)
          · by_cases e : p = i
            · rw [v3, e, if_pos rfl]
            · rw [n3 _ (by omega)]
              exact hO p (by omega)
          · rw [n3 t (by omega)]
            exact fr t a b e (by omega)
        have bl2 : ai_op 1 0 (r2 (169 + 4 * i + q)) = 0 - r (169 + 4 * i + q) := by
          rw [eL]
          exact wq_o1 (by omega) (by omega)
        have eb : zl_b r q x i = 0 - r (169 + 4 * i + q) - (if x = (i : Int) then 1 else 0) := if_pos (by omega)
        have x2 : r2 730 = x := hX.2
        by_cases cx : x = (i : Int)
        · refine hseg _ _ _ _ _ r2 M _ _ _ _ _ row.1 ⟨pt_m0, pt_m2 ⟨by show ((i + 1 : Nat) : Int) ≤ r2 71; omega, by show r2 71 ≤ 4; omega⟩ ⟨by show (i : Int) ≤ r2 730; omega, by show r2 730 ≤ (i : Int); omega⟩, pt_m0⟩ ⟨fun _ => ?_, trivial⟩
          refine nx _ (fun t => ?_)
          have e2 : ai_op 1 (ai_op 1 0 (r2 (169 + 4 * i + q))) 1 = zl_b r q x i := by
            rw [bl2, eb, if_pos cx]
            exact wq_o1 (by omega) (by omega)
          rw [← e2]
          rfl
        · have e2 : ai_op 1 0 (r2 (169 + 4 * i + q)) = zl_b r q x i := by
            rw [bl2, eb, if_neg cx, Int.sub_zero]
          by_cases cy : x < (i : Int)
          · refine hseg _ _ _ _ _ r2 M _ _ _ _ _ row.2 ⟨pt_m0, pt_m2 ⟨by show ((i + 1 : Nat) : Int) ≤ r2 71; omega, by show r2 71 ≤ 4; omega⟩ ⟨by show (-1 : Int) ≤ r2 730; omega, by show r2 730 ≤ (i : Int) - 1; omega⟩, pt_m0⟩ ⟨fun _ => ?_, trivial⟩
            refine nx _ (fun t => ?_)
            rw [← e2]
            rfl
          · refine hseg _ _ _ _ _ r2 M _ _ _ _ _ (List.all_eq_true.mp c3b i (List.mem_range.mpr (by omega))) ⟨pt_m0, pt_m2 ⟨by show ((i + 1 : Nat) : Int) ≤ r2 71; omega, by show r2 71 ≤ 4; omega⟩ ⟨by show (i : Int) + 1 ≤ r2 730; omega, by show r2 730 ≤ 3; omega⟩, pt_m0⟩ ⟨fun _ => ?_, trivial⟩
            refine nx _ (fun t => ?_)
            rw [← e2]
            rfl
    -- all loads of the quarter
    have xq : pt_v r1 (pt_xr (0, .ofNat q)) = (q : Int) := by
      rw [pt_xr_ok hE1.1]
      show r1 0 + (q : Int) = q
      rw [hE1.1, Int.zero_add]
    obtain ⟨r6, hr6⟩ : ∃ r6, r6 = pt_up r1 (pt_wc [wa_r 264, wa_k q] lo_aZ) := ⟨_, rfl⟩
    have v6 : ∀ t, r6 t = if t = 727 then (q : Int) else r1 t := fun t => by
      rw [hr6, ← xq]
      rfl
    have n6 : ∀ t, t < 727 → t ≠ 90 → r6 t = r t := fun t a b => by rw [v6, if_neg (by omega), u1, if_neg b]
    refine hcall (21, 0, 0) _ _ _ _ _ r1 M 208 1 807 _ _ lo_kZ.2.1 ck.1.1 ck.1.2 (lo_MZ (n := n + 1 + 1 + 1 + 1 + 1) (q := q) (by omega) hq) (by
      rw [← hr6]
      refine ⟨by rw [v6, if_pos rfl], fun p hp hle => ?_⟩
      rw [n6 71 (by omega) (by omega)] at hle
      rw [n6 _ (by omega) (by omega)]
      exact jz p hp hle) (fun r7 M7 o hq' => ?_)
    rw [← hr6] at hq'
    obtain ⟨rc, rs⟩ := wa_rm (n := n + 1 + 1 + 1 + 1 + 1 + 1) lo_kZ.2.2
    rw [rc, rs]
    obtain ⟨rfl, q1, eM⟩ := hq'
    rw [eM]
    have eT6 : op_TZ r6 q 0 = op_TZ r q 0 := by
      rw [zl_Te (fun p hp => by rw [n6 _ (by omega) (by omega)]; exact jl p hp), eT, n6 (169 + 4 * 0 + q) (by omega) (by omega), n6 (169 + 4 * 1 + q) (by omega) (by omega), n6 (169 + 4 * 2 + q) (by omega) (by omega), n6 (169 + 4 * 3 + q) (by omega) (by omega)]
    rw [eT6]
    obtain ⟨r8, hr8⟩ : ∃ r8, r8 = pt_mrg 727 r1 r7 807 (some (op_TZ r q 0)) := ⟨_, rfl⟩
    show P (24, 0, 0) (zl_L q wa_u) [wa_i 807, wa_r 264] (pt_mrg 727 r1 r7 807 (some (op_TZ r q 0))) M
    rw [← hr8]
    have lo8 : ∀ t, t < 727 → r8 t = r1 t := fun t a => by
      rw [hr8, wa_mlt a, q1 t a, v6, if_neg (by omega)]
    have hi8 : ∀ t, 727 ≤ t → t ≠ 807 → r8 t = r1 t := fun t a b => by
      rw [hr8]
      show (if t < 727 then _ else if t = 807 then op_TZ r q 0 else r1 t) = r1 t
      rw [if_neg (by omega), if_neg b]
    have s8 : r8 807 = op_TZ r q 0 := by
      rw [hr8]
      exact wa_mz (by omega)
    have n8 : ∀ t, t ≠ 90 → t ≠ 807 → r8 t = r t := fun t a b => by
      by_cases c : t < 727
      · rw [lo8 t c, u1, if_neg a]
      · rw [hi8 t (by omega) b, u1, if_neg a]
    have nx : ∀ r9 : Nat → Int, (∀ t, r9 t = if t = 91 then T else r8 t) → P (42, 0, 0) (zl_h q 0) [] r9 M := fun r9 v9 => by
      have n9 : ∀ t, t ≠ 91 → t ≠ 90 → t ≠ 807 → r9 t = r t := fun t a b c => by rw [v9, if_neg a, n8 t b c]
      refine key 4 0 r9 rfl bP.1 ⟨⟨(n9 _ (by omega) (by omega) (by omega)).trans p1, (n9 _ (by omega) (by omega) (by omega)).trans p2⟩, (n9 _ (by omega) (by omega) (by omega)).trans p3⟩ ⟨by rw [v9, if_pos rfl], by rw [v9, if_neg (by omega), lo8 _ (by omega), u1, if_pos rfl]⟩ (fun p hp => absurd hp (Nat.not_lt_zero p)) (fun t a b c _ => n9 t b c (by omega))
    have x8 : r8 730 = x := (n8 _ (by omega) (by omega)).trans p3
    by_cases cx : x = -1
    · refine hseg _ _ _ _ _ r8 M _ _ _ _ _ c2.1 ⟨pt_m0, pt_m1 ⟨by show (-1 : Int) ≤ r8 730; omega, by show r8 730 ≤ -1; omega⟩, pt_m0⟩ ⟨fun _ => ?_, trivial⟩
      refine nx _ (fun t => ?_)
      have e : r8 807 = T := by
        rw [s8, hT]
        unfold zl_T
        rw [if_pos cx, Int.add_zero]
      rw [← e]
      rfl
    · refine hseg _ _ _ _ _ r8 M _ _ _ _ _ c2.2 ⟨pt_m0, pt_m1 ⟨by show (0 : Int) ≤ r8 730; omega, by show r8 730 ≤ 3; omega⟩, pt_m0⟩ ⟨fun _ => ?_, trivial⟩
      refine nx _ (fun t => ?_)
      have e : ai_op 0 (r8 807) 1 = T := by
        rw [s8, hT]
        unfold zl_T
        rw [if_neg cx, eT]
        exact wq_o0 (by omega) (by omega)
      rw [← e]
      rfl
  · have g1 : 0 ≤ r 574 := g.1
    have g2 : r 574 ≤ 0 := g.2.1
    have ev : zl_v r q on w x K l F = (-1, zl_s r) := if_pos (by omega)
    show P (17, 0, 0) (zl_L q wa_u) [.inl (0, -1)] (pt_up r [(90, gz_k (-1))]) M
    rw [← hr1] at u1 ⊢
    refine hret (17, 0, 0) _ (0, -1) r1 M rfl zl_k.2.1.1.1 (by decide +kernel) (by decide +kernel) ⟨congrArg some ?_, ⟨⟨?_, fun k hk => ?_⟩, by rw [ev]; exact Or.inl rfl⟩, fun t a b => ?_, fun _ _ _ => rfl⟩
    · rw [ev]
      show r1 0 + -1 = -1
      rw [u1, if_neg (by omega), h0]
      rfl
    · rw [ev, u1, if_pos rfl]
    · rw [ev, u1, if_neg (by omega)]
      exact (if_pos (by omega)).symm
    · rw [u1, if_neg (by unfold zl_n at b; omega)]
