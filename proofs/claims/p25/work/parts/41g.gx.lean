/-! CONTRACTS WITH GHOSTS: numbers of the start that stand for what an operation makes of others; the user has them among his definitions (printed by gx.py) -/
abbrev gx_C : Type := us_C × List (Nat × Nat × ai_X × ai_X)
noncomputable def gx_s (y : ai_Y) (x : ai_X) : Option ai_X := match Nat.beq x.1 0 with
  | true => some x
  | false => match ai_ylook y x.1 with
    | some u => some (u.1, u.2 + x.2)
    | none => none
noncomputable def gx_go (E : ai_E) (B : List (Nat × Int × Int)) : List (Nat × Nat × ai_X × ai_X) → ai_Y → Option ai_Y
  | [], y => some y
  | q :: l, y => match gx_s y q.2.2.1 with
    | none => none
    | some u => match gx_s y q.2.2.2 with
      | none => none
      | some w => match ai_find q.2.1 u w E.2.2 with
        | none => none
        | some z => match ai_mx 1 E B y (z, 0) (q.1, 0) with
          | none => none
          | some y' => gx_go E B l y'
noncomputable def gx_sd (r : Nat → Int) (gs : List (Nat × Nat × ai_X × ai_X)) : Prop := ∀ q ∈ gs, r q.1 = ai_op q.2.1 (ai_vx r q.2.2.1) (ai_vx r q.2.2.2)
theorem gx_s_ok {y : ai_Y} {x u : ai_X} {r r2 : Nat → Int} (h : gx_s y x = some u) (hc : ai_cons 1 r r2 y) : ai_vx r2 x = ai_vx r u := by
  unfold gx_s at h
  split at h
  · rename_i e
    cases h
    have e := Nat.eq_of_beq_eq_true e
    show r2 x.1 + x.2 = r x.1 + x.2
    rw [e, hc.1 0 (by omega)]
  · split at h
    · rename_i v e
      cases h
      have := hc.2 _ _ e
      show r2 x.1 + x.2 = r v.1 + (v.2 + x.2)
      rw [this]
      show r v.1 + v.2 + x.2 = _
      omega
    · cases h
theorem gx_go_ok {E : ai_E} {B : List (Nat × Int × Int)} : ∀ {gs : List (Nat × Nat × ai_X × ai_X)} {y y' : ai_Y}, gx_go E B gs y = some y' → ai_yok 1 E B y → ai_yok 1 E B y' ∧ ai_yle y y' ∧ ∀ r r2, ai_gE r E → ai_cons 1 r r2 y' → gx_sd r2 gs
  | [], y, y', h, hy => by
    cases h
    exact ⟨hy, ai_yle.rfl', fun r r2 _ _ q hq => by cases hq⟩
  | q :: l, y, y', h, hy => by
    unfold gx_go at h
    split at h
    · cases h
    · rename_i u eu
      split at h
      · cases h
      · rename_i w ew
        split at h
        · cases h
        · rename_i z ez
          split at h
          · cases h
          · rename_i y1 e1
            obtain ⟨m1, m2, m3⟩ := ai_mx_ok e1 hy
            obtain ⟨k1, k2, k3⟩ := gx_go_ok h m1
            refine ⟨k1, m2.trans k2, fun r r2 hE hc g hg => ?_⟩
            rcases List.mem_cons.mp hg with rfl | hg
            · have hcy := hc.le (m2.trans k2)
              have d := (hE.2.2.2.2 _ (ai_find_ok ez)).2.2.2
              have m := m3 r r2 (hc.le k2)
              have m : r2 g.1 + 0 = r z + 0 := m
              have d : r z = ai_op g.2.1 (ai_vx r u) (ai_vx r w) := d
              rw [gx_s_ok eu hcy, gx_s_ok ew hcy, ← d]
              omega
            · exact k3 r r2 hE hc g hg
noncomputable def gx_use (C : gx_C) (aa : List ai_V) (G : ai_G) : ai_Q := match G with
  | (E, h, _, _) => match Nat.beq h.1 C.1.2.2.1.1 && us_free h with
    | false => none
    | true => match ai_mvs 1 E (sm_nb 1 C.1.1 ++ []) [] aa C.1.2.1 with
      | none => none
      | some y => match us_mt E (sm_nb 1 C.1.1 ++ []) 9 y h.2 C.1.2.2.1.2 with
        | none => none
        | some y => match gx_go E (sm_nb 1 C.1.1 ++ []) C.2 y with
          | none => none
          | some y => match ai_cov y 1 C.1.1.length with
            | false => none
            | true => some (C.1.2.2.2.map (us_out E h (1 + C.1.1.length) y))
noncomputable def gk_use (C : gx_C) (aa : List ai_V) (G : ai_G) : ai_Q := match G with
  | (E, h, _, _) => match Nat.beq h.1 C.1.2.2.1.1 && us_free h with
    | false => none
    | true => match ai_mvs 1 E (sm_nb 1 C.1.1 ++ []) [] aa C.1.2.1 with
      | none => none
      | some y => match xu_mt E (sm_nb 1 C.1.1 ++ []) 9 y h.2 C.1.2.2.1.2 with
        | none => none
        | some y => match gx_go E (sm_nb 1 C.1.1 ++ []) C.2 y with
          | none => none
          | some y => match ai_cov y 1 C.1.1.length with
            | false => none
            | true => some (C.1.2.2.2.map (us_out E h (1 + C.1.1.length) y))
theorem gk_use_eq {C : gx_C} {aa : List ai_V} {G : ai_G} : gk_use C aa G = gx_use C aa G := by
  unfold gk_use gx_use
  simp only [xu_mt_eq]
noncomputable def gx_Ct (l : Launch) (D : va_G) (tyc : Nat → ClassId) (A : Nat → Prop) (sa : ai_B) (strs : List ai_Z) (nws Wg : List Cond) (y : ai_MT) (rm : Room) (C : gx_C) : Prop :=
  ∀ (ws0 : va_W) (r : Nat → Int) (ad : Nat → Nat) (H0 : Heap) (As : List Value), ai_Pw tyc ws0 → ai_Wd D tyc A sa ws0 r ad (sm_E (1, [], []) C.1.1, C.1.2.2.1, 0, 0) H0 → ai_gF r ad (sm_E (1, [], []) C.1.1).1 C.1.2.2.1.1 C.1.2.1 As → gx_sd r C.2 →
    vx_Met l y.1 (ai_cw y :: Wg) rm (fun a U => a = As.toArray ∧ U.heap = H0 ∧ ai_St D tyc A sa strs nws U ∧ ∀ q, H0.size ≤ q → A q) (ai_Qc D tyc A sa ws0 r ad (sm_E (1, [], []) C.1.1).1 C.1.2.2.1.1 (C.1.2.2.2.map (sm_out (sm_E (1, [], []) C.1.1)))) (ai_XC D tyc A sa ws0 r ad (sm_E (1, [], []) C.1.1).1 C.1.2.2.1.1 (C.1.2.2.2.map (sm_out (sm_E (1, [], []) C.1.1)))) rm.cells rm.slots A
theorem gx_use_ok {l : Launch} {D : va_G} {tyc : Nat → ClassId} {A : Nat → Prop} {sa : ai_B} {strs : List ai_Z} {nws Wg : List Cond} {y0 : ai_MT} {rm : Room} {C : gx_C} (hck : us_ck C.1 = true) (hc : gx_Ct l D tyc A sa strs nws Wg y0 rm C)
    {aa : List ai_V} {G : ai_G} {outs : List (ai_R × ai_G)} (h : gx_use C aa G = some outs) : ai_Ct l D tyc A sa strs nws Wg y0 rm aa G outs := by
  obtain ⟨⟨pre, aa', h', W⟩, gs⟩ := C
  obtain ⟨E, hh, cs, sl⟩ := G
  unfold us_ck at hck
  simp only [Bool.and_eq_true] at hck
  obtain ⟨w1, w2, w3⟩ := hck
  unfold gx_use at h
  dsimp only at h
  split at h
  · cases h
  · rename_i en
    rw [Bool.and_eq_true] at en
    have efr : us_free hh = true := en.2
    have en : hh.1 = h'.1 := Nat.eq_of_beq_eq_true en.1
    split at h
    · cases h
    · rename_i y1 e1
      split at h
      · cases h
      · rename_i y0' e2
        split at h
        · cases h
        rename_i y eg
        split at h
        · cases h
        · rename_i e3
          cases h
          intro ws0 r ad H0 As hPw hWd hA
          obtain ⟨ws, hP, hD, hE, hH, hO, hsa⟩ := hWd
          have hE : ai_gE r E := hE
          obtain ⟨a1, a2, a3, a4⟩ := ai_mvs_ok e1 (fun t x q => by cases q)
          obtain ⟨b1', b2', b3⟩ := us_mt_ok 9 e2 a1
          obtain ⟨b1, b4, b5⟩ := gx_go_ok eg b1'
          have b2 := b2'.trans b4
          have hcov : ∀ u, 1 ≤ u → u < 1 + pre.length → ai_ylook y u ≠ none := fun u h1 h2 => ai_cov_ok e3 u h1 h2
          obtain ⟨r2, hr2⟩ : ∃ r2 : Nat → Int, r2 = fun t => if t < 1 then r t else match ai_ylook y t with | some x => ai_vx r x | none => 0 := ⟨_, rfl⟩
          have k1 : ∀ t, t < 1 → r2 t = r t := fun t ht => by rw [hr2]; exact if_pos ht
          have k2 : ∀ t x, ai_ylook y t = some x → r2 t = ai_vx r x := fun t x q => by
            rw [hr2]
            show (if t < 1 then r t else match ai_ylook y t with | some x => ai_vx r x | none => 0) = _
            rw [if_neg (Nat.not_lt.mpr (b1 t x q).1), q]
          have hcn : ai_cons 1 r r2 y := ⟨k1, k2⟩
          have hE' : ai_gE r2 (sm_E (1, [], []) pre) := by
            refine ⟨by rw [k1 0 (by omega)]; exact hE.1, by show 0 < 1 + _; omega, fun t ht => ?_, fun q hq => ?_, fun q hq => (by cases hq)⟩
            · have ht : t < 1 + pre.length := ht
              by_cases q : t < 1
              · rw [k1 t q]
                exact hE.2.2.1 t (Nat.lt_of_lt_of_le q hE.2.1)
              · cases ey : ai_ylook y t with
                | none => exact absurd ey (hcov t (by omega) ht)
                | some x =>
                  rw [k2 t x ey]
                  obtain ⟨-, z1, -, z3, z4⟩ := b1 t x ey
                  have := ai_iv_ok hE z1
                  exact ⟨Int.le_trans z3 this.1, Int.le_trans this.2 z4⟩
            · rcases List.mem_append.mp hq with hq | hq
              · have h1 := sm_nb_mem hq
                refine ⟨h1.2, ?_⟩
                cases ey : ai_ylook y q.1 with
                | none => exact absurd ey (hcov _ h1.1 h1.2)
                | some x =>
                  rw [k2 _ x ey]
                  obtain ⟨-, z1, ⟨z2, z3⟩, -⟩ := b1 _ x ey
                  rw [sm_look hq] at z2 z3
                  have := ai_iv_ok hE z1
                  exact ⟨Int.le_trans z2 this.1, Int.le_trans this.2 z3⟩
              · cases hq
          have hwh := sm_wh_ok w2
          have hwa : ∀ a ∈ aa', ai_wfV (1 + pre.length) h'.1 a := fun a ha => sm_wv_ok (List.all_eq_true.mp w1 a ha)
          have hA' : ai_gF r2 ad (1 + pre.length) h'.1 aa' As := by
            rw [← en]
            exact (a4 r r2 (hcn.le b2)).2 ad _ _ _ As hA (by rw [en]; exact hwa)
          have hWd' : ai_Wd D tyc A sa ws r2 ad (sm_E (1, [], []) pre, h', 0, 0) H0 := by
            refine ⟨ws, hP, hD, hE', ⟨?_, hH.2.1, fun k hk d hd => ?_, fun k hk hd => rfl⟩, fun q hq d hd => ?_, hsa⟩
            · have := hH.1
              rw [← en]; exact this
            · have hk : k + 16 < h'.1 := hk
              have h512 : hh.1 ≤ 512 := hH.1.2.1
              obtain ⟨z1, z2, hm, hz1, hz2⟩ := b3 (k + 16) (by show k + 16 < 512; omega)
              have hd' : ai_tget 9 h'.2 (k + 16) = some d := hd
              rw [hd'] at hm
              cases ec : ai_tget 9 hh.2 (k + 16) with
              | none => rw [ec] at hm; cases hm
              | some c =>
                rw [ec] at hm
                obtain ⟨e, g1, g2⟩ := hH.2.2.1 k (by show k + 16 < hh.1; omega) c ec
                obtain ⟨-, -, f3⟩ := ai_mc_ok (show ai_mc 1 E _ z1 (some c) (some d) = some z2 from hm) hz1
                have g2 : ai_gC tyc r ad E.1 hh.1 c e := g2
                exact ⟨e, g1, by
                  show ai_gC tyc r2 ad (1 + pre.length) h'.1 d e
                  rw [← en]
                  exact f3 r r2 hE (hcn.le (hz2.trans b4)) tyc ad _ _ e g2 (by rw [en]; exact hwh _ d hk hd)⟩
            · have h16 : 16 ≤ hh.1 := hH.1.1
              obtain ⟨z1, z2, hm, hz1, hz2⟩ := b3 q (by show q < 512; omega)
              have hd' : ai_tget 9 h'.2 q = some d := hd
              rw [hd'] at hm
              cases ec : ai_tget 9 hh.2 q with
              | none => rw [ec] at hm; cases hm
              | some c =>
                rw [ec] at hm
                obtain ⟨z, hz, lo, hi, l, rfl, g2, g3⟩ := hO q hq c ec
                obtain ⟨-, -, lo', hi', m, rfl, f3⟩ := ai_mnum_ok (show ai_mc 1 E _ z1 (some _) (some d) = some z2 from hm) hz1
                exact ⟨z, hz, lo', hi', m, rfl, g2, f3 r r2 hE (hcn.le (hz2.trans b4)) _ _ g3 (hwh q _ (by omega) hd)⟩
          have nk : ∀ k, ai_cell hh (k + 16) = none → k + 16 < hh.1 → ws[k]? = ws0[k]? := fun k h1 h2 => hH.2.2.2 k h2 h1
          have hPw' : ai_Pw tyc ws := by
            obtain ⟨n1, n2, n3, n4, n5⟩ := us_free_ok efr
            exact hPw.same (nk 270 n1 (by omega)) (nk 272 n2 (by omega)) (nk 273 n3 (by omega)) (nk 274 n4 (by omega))
          have M := hc ws r2 ad H0 As hPw' hWd' hA' (b5 r r2 hE hcn)
          have fin : ∀ (w : sm_W), w ∈ W → ∀ (t : State) (r' : Nat → Int) (ad' : Nat → Nat), ai_ext (1 + pre.length) r2 r' → ai_ext h'.1 ad ad' → ai_Wd D tyc A sa ws r' ad' (sm_out (sm_E (1, [], []) pre) w).2 t.heap → w.2.2.1 = h'.1 ∧ ∃ r3, ai_ext E.1 r r3 ∧ ai_Wd D tyc A sa ws0 r3 ad' (us_out E hh (1 + pre.length) y w).2 t.heap ∧ ∀ x : ai_X, x.1 < 1 + pre.length + w.2.1.length → (us_s E.1 (1 + pre.length) y x).1 < E.1 + w.2.1.length ∧ ai_vx r3 (us_s E.1 (1 + pre.length) y x) = ai_vx r' x := fun w hw t r' ad' x1 x2 hW => by
            have hn : w.2.2.1 = h'.1 := Nat.eq_of_beq_eq_true (List.all_eq_true.mp w3 w hw)
            exact ⟨hn, us_end hE hH hO b1 hcov (by omega) (k1 0 (by omega)) k2 x1 (by rw [en]; exact x2) (hn.trans en.symm) hW⟩
          refine sm_imp M (fun _ _ q => q) (fun a s o t hq => ?_) (fun X s t hq => ?_)
          · obtain ⟨f, hf, x, v, e5, e6, r', ad', x1, x2, -, -, hW, hF, hv⟩ := hq
            obtain ⟨w, hw, rfl⟩ := List.mem_map.mp hf
            obtain ⟨hn, r3, q1, q2, q3⟩ := fin w hw t r' ad' x1 x2 hW
            have e5 : w.1 = .inr x := e5
            refine ⟨us_out E hh (1 + pre.length) y w, List.mem_map.mpr ⟨w, hw, rfl⟩, x.map (sb_v (us_s E.1 (1 + pre.length) y)), v, ?_, e6, r3, ad', q1, by rw [en]; exact x2, Nat.le_add_right _ _, Nat.le_refl _, q2, hF, ?_⟩
            · show us_r _ w.1 = _
              rw [e5]
              rfl
            · cases x with
              | none => exact hv
              | some b =>
                obtain ⟨u, rfl, hu⟩ := hv
                refine ⟨u, rfl, ?_⟩
                have g3 := sb_v_ok q3 hu
                show ai_gV r3 ad' (E.1 + w.2.1.length) hh.1 _ u
                rw [en, ← hn]
                exact g3
          · obtain ⟨f, hf, x, e5, e6, r', ad', x1, x2, -, -, hW, hF, -⟩ := hq
            obtain ⟨w, hw, rfl⟩ := List.mem_map.mp hf
            obtain ⟨hn, r3, q1, q2, q3⟩ := fin w hw t r' ad' x1 x2 hW
            have e5 : w.1 = .inl x := e5
            refine ⟨us_out E hh (1 + pre.length) y w, List.mem_map.mpr ⟨w, hw, rfl⟩, x, ?_, e6, r3, ad', q1, by rw [en]; exact x2, Nat.le_add_right _ _, Nat.le_refl _, q2, hF, trivial⟩
            show us_r _ w.1 = _
            rw [e5]
            rfl
noncomputable def gx_try (PX : List (Nat × gx_C)) (mi : Nat) (aa : List ai_V) (G : ai_G) : ai_Q := match PX with
  | [] => none
  | q :: PX => match Nat.beq q.1 mi with
    | true => match gk_use q.2 aa G with
      | some o => some o
      | none => gx_try PX mi aa G
    | false => gx_try PX mi aa G
noncomputable def gx_ok (n mi : Nat) (C : gx_C) : Prop := us_ck C.1 = true ∧ ai_mok ft_W (ct_mt mi) ∧ ∀ (l : Launch) (D : va_G) (tyc : Nat → ClassId) (A : Nat → Prop) (sa : ai_B), l.stackTraces = false → gx_Ct l D tyc A sa ct_strs ft_N ft_W (ct_mt mi) (lt_rm n mi) C
theorem gx_ok.mono {n n' mi : Nat} {C : gx_C} (h : gx_ok n mi C) (hn : n ≤ n') : gx_ok n' mi C := by
  obtain ⟨h1, h2, h3⟩ := h
  refine ⟨h1, h2, fun l D tyc A sa hl ws0 r ad H0 As hPw hWd hA hs => ?_⟩
  exact lt_wide (r := lt_rm n mi) (r' := lt_rm n' mi) (by show n + 0 + 8 ≤ n' + 0 + 8; omega) (by show 64 * (n + 0) + 400 ≤ 64 * (n' + 0) + 400; omega) rfl rfl (h3 l D tyc A sa hl ws0 r ad H0 As hPw hWd hA hs)
noncomputable def gx_all (n : Nat) : List (Nat × gx_C) → Prop
  | [] => True
  | q :: T => gx_ok n q.1 q.2 ∧ gx_all n T
theorem gx_try_ok {n mi : Nat} {aa : List ai_V} {G : ai_G} {o : List (ai_R × ai_G)} : ∀ {PX : List (Nat × gx_C)}, gx_all n PX → gx_try PX mi aa G = some o → ∃ C, gx_ok n mi C ∧ gx_use C aa G = some o
  | [], _, h => by cases h
  | q :: PX, hT, h => by
    unfold gx_try at h
    split at h
    · rename_i e
      have e := Nat.eq_of_beq_eq_true e
      split at h
      · rename_i e2
        cases h
        exact ⟨q.2, by rw [← e]; exact hT.1, gk_use_eq.symm.trans e2⟩
      · exact gx_try_ok hT.2 h
    · exact gx_try_ok hT.2 h
noncomputable def gx_call (PX : List (Nat × gx_C)) (T : List (Nat × us_C)) (base : Nat → List ai_V → ai_G → ai_Q) (mi : Nat) (aa : List ai_V) (G : ai_G) : ai_Q := match gx_try PX mi aa G with
  | some o => some o
  | none => lt_call T base mi aa G
noncomputable def gx_meth (PX : List (Nat × gx_C)) (prog : Nat → Option ai_M) (T : List (Nat × us_C)) (fuel : Nat) : Nat → Nat → List ai_V → ai_G → ai_Q
  | 0, _, _, _ => none
  | d + 1, mi, args, G => match prog mi with
    | none => none
    | some (nl, code, hand, bud, ann) => match ai_pad nl args with
      | none => none
      | some L => ai_run code hand bud ct_bud ct_dflt ct_kind (gx_call PX T (gx_meth PX prog T fuel d)) ann fuel [] false 0 L [] G
noncomputable def gf_meth (PX : List (Nat × gx_C)) (prog : Nat → Option fr_M) (T : List (Nat × us_C)) (fuel : Nat) (d : Nat) : Nat → List ai_V → ai_G → ai_Q := Nat.rec (motive := fun _ => Nat → List ai_V → ai_G → ai_Q) (fun _ _ _ => none) (fun _ ih mi args G => fr_enter ct_bud ct_dflt ct_kind fuel (gx_call PX T ih) args G (prog mi)) d
theorem gf_meth_eq {PX : List (Nat × gx_C)} {prog : Nat → Option fr_M} {T : List (Nat × us_C)} {fuel : Nat} (hnx : ∀ mi q, prog mi = some q → fr_nx q.2.1) : ∀ (d mi : Nat) (args : List ai_V) (G : ai_G), gf_meth PX prog T fuel d mi args G = gx_meth PX (fun m => (prog m).map fr_unM) T fuel d mi args G := by
  intro d
  induction d with
  | zero => intros; rfl
  | succ d ih =>
    intro mi args G
    have e0 : gf_meth PX prog T fuel d = gx_meth PX (fun m => (prog m).map fr_unM) T fuel d := by
      funext a b c
      exact ih a b c
    show fr_enter ct_bud ct_dflt ct_kind fuel (gx_call PX T (gf_meth PX prog T fuel d)) args G (prog mi) = _
    rw [e0]
    unfold gx_meth fr_enter
    cases eq : prog mi with
    | none => rfl
    | some q =>
      have hq := hnx mi q eq
      obtain ⟨nl, code, hand, bud, ann⟩ := q
      dsimp only [Option.map, fr_unM]
      cases ai_pad nl args with
      | none => rfl
      | some L => exact fr_run_eq hq _ _ _ _ _ _ _
theorem gx_mok {PX : List (Nat × gx_C)} {prog : Nat → Option ai_M} {T : List (Nat × us_C)} {fuel : Nat} (hprog : ∀ mi nl code hand bud ann, prog mi = some (nl, code, hand, bud, ann) → ai_Pm ft_W ft_N ct_strs ct_mt ct_bud mi nl code hand bud ann) : ∀ {d mi : Nat} {aa : List ai_V} {G : ai_G} {outs : List (ai_R × ai_G)}, gx_meth PX prog T fuel d mi aa G = some outs → ai_mok ft_W (ct_mt mi)
  | 0, mi, aa, G, outs, h => by cases h
  | d + 1, mi, aa, G, outs, h => by
    unfold gx_meth at h
    split at h
    · cases h
    · rename_i nl code hand bud ann ep
      exact (hprog mi nl code hand bud ann ep).2.2.1
theorem gx_call_ok {l : Launch} {D : va_G} {tyc : Nat → ClassId} {A : Nat → Prop} {sa : ai_B} (hl : l.stackTraces = false) {PX : List (Nat × gx_C)} {T : List (Nat × us_C)} {n d : Nat} (hX : gx_all n PX) (hT : lt_all n T) {base : Nat → List ai_V → ai_G → ai_Q}
    (hb : ∀ mi {aa : List ai_V} {G : ai_G} {o : List (ai_R × ai_G)}, base mi aa G = some o → ai_mok ft_W (ct_mt mi) ∧ ai_Ct l D tyc A sa ct_strs ft_N ft_W (ct_mt mi) (lt_rm (n + d) mi) aa G o) {mi : Nat} {aa : List ai_V} {G : ai_G} {o : List (ai_R × ai_G)} (h : gx_call PX T base mi aa G = some o) :
    ai_mok ft_W (ct_mt mi) ∧ ai_Ct l D tyc A sa ct_strs ft_N ft_W (ct_mt mi) (lt_rm (n + d) mi) aa G o := by
  unfold gx_call at h
  split at h
  · rename_i o' e
    cases h
    obtain ⟨C, hC, hu⟩ := gx_try_ok hX e
    obtain ⟨h1, h2, h3⟩ := hC.mono (n' := n + d) (by omega)
    exact ⟨h2, gx_use_ok h1 (h3 l D tyc A sa hl) hu⟩
  unfold lt_call at h
  split at h
  · rename_i o' e
    cases h
    obtain ⟨C, hC, hu⟩ := lt_try_ok hT e
    obtain ⟨h1, h2, h3⟩ := hC.mono (n' := n + d) (by omega)
    exact ⟨h2, xb_ok h1 (h3 l D tyc A sa hl) hu⟩
  · exact hb mi h
set_option maxHeartbeats 1000000 in
theorem gx_meth_ok {l : Launch} {D : va_G} {tyc : Nat → ClassId} {A : Nat → Prop} {sa : ai_B} (hl : l.stackTraces = false) {prog : Nat → Option ai_M} {PX : List (Nat × gx_C)} {T : List (Nat × us_C)} {fuel n : Nat} (hX : gx_all n PX) (hT : lt_all n T) (hprog : ∀ mi nl code hand bud ann, prog mi = some (nl, code, hand, bud, ann) → ai_Pm ft_W ft_N ct_strs ct_mt ct_bud mi nl code hand bud ann) : ∀ (d mi : Nat) (aa : List ai_V) (G : ai_G) (outs : List (ai_R × ai_G)), gx_meth PX prog T fuel d mi aa G = some outs → ai_Ct l D tyc A sa ct_strs ft_N ft_W (ct_mt mi) (lt_rm (n + d) mi) aa G outs := by
  have hgood : ∀ w ∈ ft_W, goodWord w = true := fun w hw => (List.mem_filter.mp hw).2
  have hnk : ∀ w ∈ ft_N, ai_nk w = true := fun w hw => (List.mem_filter.mp hw).2
  intro d
  induction d with
  | zero => intro mi aa G outs h; cases h
  | succ d ih =>
    intro mi aa G outs h ws0 r ad H0 As hPw hWd hA
    unfold gx_meth at h
    split at h
    · cases h
    · rename_i nl code hand bud ann ep
      obtain ⟨e1, e2, mok, htab, hhand⟩ := hprog mi nl code hand bud ann ep
      split at h
      · cases h
      · rename_i L epad
        have body : ∀ (p : Program) (e : Env) (s : State) (m : MethodId) (args : Array Value) (below : List Frame) (meth : Method) (c : Code) (s₁ : State), BodyLoose p l (ct_mt mi).1 (headSpec (ai_cw (ct_mt mi) :: ft_W) (lt_rm (n + (d + 1)) mi)) (ct_mt mi).2.1 (ct_mt mi).2.2.1 (ct_mt mi).2.2.2.1 e s m args below meth c s₁ → c.maxLocals = (ct_mt mi).2.2.1 → c.exceptionTable.toList = ai_rows (ct_mt mi).2.2.2.2.1 → (args = As.toArray ∧ s.heap = H0 ∧ ai_St D tyc A sa ct_strs ft_N s ∧ ∀ q, H0.size ≤ q → A q) →
            W p l e (headSpec (ai_cw (ct_mt mi) :: ft_W) (lt_rm (n + (d + 1)) mi)).room s m args below meth c s.heap [] 0 0 (vx_MQ below (ai_Qc D tyc A sa ws0 r ad G.1.1 G.2.1.1 outs) (ai_XC D tyc A sa ws0 r ad G.1.1 G.2.1.1 outs) args s (lt_rm (n + (d + 1)) mi).cells (lt_rm (n + (d + 1)) mi).slots A) (entryFrame m args (ct_mt mi).2.2.1) := by
          intro p e s m args below meth c s₁ B hml hrows ⟨hargs, hheap, hSt, hA0⟩
          have hts : ∀ w ∈ ft_W, w.before args s = true := fun w hw => atoms_spec (ws := ai_cw (ct_mt mi) :: ft_W) B.pre w (List.mem_cons_of_mem _ hw)
          have F : ai_Fr p (lt_rm (n + (d + 1)) mi) s m args meth c D tyc A sa nl (ct_mt mi).2.1 (ct_mt mi).1.cls ft_W ct_strs ft_N bud ct_dflt ct_kind := ⟨B.exec, B.bytes, hml.trans e1.symm, hts, findClass_of_methodNamed B.named, hSt, by rw [hheap]; exact hA0, by rw [e2]; exact ⟨rfl, rfl⟩, sc_all, ⟨by show 8 ≤ n + (d + 1) + 0 + 8; omega, by show 400 ≤ 64 * (n + (d + 1) + 0) + 400; omega⟩, B.notSynchronized⟩
          have hsl : ∀ x ∈ c.exceptionTable.toList, (ct_mt mi).2.2.2.2.1.getD [] = [] → False := fun x hx q => by
            rw [hrows] at hx
            cases et : (ct_mt mi).2.2.2.2.1 with
            | none => rw [et] at hx; cases hx
            | some hh =>
              rw [et] at hx q
              have q : hh = [] := q
              subst q
              exact absurd hx (by unfold ai_rows; simp [tableOf])
          have R0 := ai_run_ok (e := e) (below := below) (R := lt_rm (n + (d + 1)) mi) (ws0 := ws0) (r0 := r) (ad0 := ad) (N0 := G.1.1) (n0 := G.2.1.1) (mc := (lt_rm (n + (d + 1)) mi).cells) (ms := (lt_rm (n + (d + 1)) mi).slots) (outs := outs) (cbud := ct_bud) (mt := ct_mt) (rm := lt_rm (n + d)) (callee := gx_call PX T (gx_meth PX prog T fuel d)) (ann := ann) (code := code) (hand := hand) (tb := (ct_mt mi).2.2.2.2.1.getD []) (ret := (ct_mt mi).2.2.2.1) (ini := decide ((ct_mt mi).1.name = "<init>")) F hl B.returns (fun q x hx => hsl x hx q) hgood hnk (fun q => (name_of_methodNamed B.named B.method).1.trans (of_decide_eq_true q)) htab
            (fun mj aa' G' o ho => (gx_call_ok hl hX hT (fun q1 {_ _ _} q4 => ⟨gx_mok hprog q4, ih q1 _ _ _ q4⟩) ho).1)
            (by rw [hrows]; exact hhand) (fun mj => ⟨by show n + d + 0 + 8 + 1 ≤ n + (d + 1) + 0 + 8; omega, by show 64 * (n + d + 0) + 400 + 64 ≤ 64 * (n + (d + 1) + 0) + 400; omega, rfl, rfl⟩) (fun mj aa' G' o ho => (gx_call_ok hl hX hT (fun q1 {_ _ _} q4 => ⟨gx_mok hprog q4, ih q1 _ _ _ q4⟩) ho).2) hPw (by rw [e2]; exact ⟨Nat.le_refl _, Nat.le_refl _⟩)
            fuel [] false 0 L [] G outs r ad s.heap [] ((lg_sl As ++ List.replicate (nl - (lg_sl As).length) Slot.unset).toArray) [] h (fun f hf => hf) ((show ai_Wd D tyc A sa ws0 r ad G s.heap by rw [hheap]; exact hWd).rel va_S.rf (ai_entry_ok epad hA) trivial) ai_ext.rfl' ai_ext.rfl' (Nat.le_refl _) (Nat.le_refl _) (fun P hP => by cases hP)
          subst hargs
          have e3 : entryFrame m As.toArray (ct_mt mi).2.2.1 = F0 m 0 ((lg_sl As ++ List.replicate (nl - (lg_sl As).length) Slot.unset).toArray) [] := by
            rw [← e1]
            exact lg_entry_eq m As nl
          rw [e3]
          exact W.widen (Nat.zero_le _) (Nat.zero_le _) R0
        unfold ai_cw at body ⊢
        cases et : (ct_mt mi).2.2.2.2.1 with
        | none =>
          rw [et] at body
          exact vx_ofW mok.1 rfl (fun p e s m args below meth c s₁ B hml ht hP => body p e s m args below meth c s₁ B hml (by
            show c.exceptionTable.toList = []
            cases ec : c.exceptionTable.toList with
            | nil => rfl
            | cons x t => exact (ht x (by rw [ec]; exact List.mem_cons_self)).elim) hP)
        | some hh =>
          rw [et] at body
          exact vx_ofWH mok.1 rfl (fun p e s m args below meth c s₁ B hml hP => body p e s m args below meth c s₁ B hml (vx_table (x := (ct_mt mi).1) B (atoms_spec (ws := Cond.codeWith (ct_mt mi).1 (ct_mt mi).2.1 (ct_mt mi).2.2.1 (ct_mt mi).2.2.2.1 hh :: ft_W) B.pre _ List.mem_cons_self)) hP)
noncomputable def gx_cal (PX : List (Nat × gx_C)) (T : List (Nat × us_C)) : Nat → List ai_V → ai_G → ai_Q := gx_call PX T (gf_meth PX (fun m => ct_meth (fun _ _ => none) m) T 10000 4)
theorem gx_cal_ok {l : Launch} {D : va_G} {tyc : Nat → ClassId} {A : Nat → Prop} {sa : ai_B} (hl : l.stackTraces = false) {PX : List (Nat × gx_C)} {T : List (Nat × us_C)} {k : Nat} (hX : gx_all k PX) (hT : lt_all k T) {mi : Nat} {aa : List ai_V} {G : ai_G} {o : List (ai_R × ai_G)} (h : gx_cal PX T mi aa G = some o) : ai_mok ft_W (ct_mt mi) ∧ ai_Ct l D tyc A sa ct_strs ft_N ft_W (ct_mt mi) (lt_rm (k + 4) mi) aa G o := by
  have hprog := ct_hprog (mk := fun _ _ => none) (fun _ => rfl)
  have e : gf_meth PX (fun m => ct_meth (fun _ _ => none) m) T 10000 4 = gx_meth PX (fun m => (ct_meth (fun _ _ => none) m).map fr_unM) T 10000 4 := by
    funext a b c
    exact gf_meth_eq (fun mi q hq => ct_hnx mi q hq) 4 a b c
  unfold gx_cal at h
  rw [e] at h
  exact gx_call_ok (d := 4) hl hX hT (fun mi {_ _ _} q => ⟨gx_mok hprog q, gx_meth_ok hl hX hT hprog 4 mi _ _ _ q⟩) h
theorem gx_hand {n mi : Nat} {C : us_C} {gs : List (Nat × Nat × ai_X × ai_X)} (hpl : ls_plain mi = true) (hck : us_ck C = true) (L0 : List ai_V) (hL0 : ai_pad (ct_mt mi).2.2.1 C.2.1 = some L0)
    (body : ∀ (l : Launch) (D : va_G) (tyc : Nat → ClassId) (A : Nat → Prop) (sa : ai_B), l.stackTraces = false → ∀ (ws0 : va_W) (r : Nat → Int) (ad : Nat → Nat), ai_Pw tyc ws0 → ai_gE r (sm_E (1, [], []) C.1) → gx_sd r gs →
      ∀ (p : Program) (e : Env) (s : State) (m : MethodId) (args : Array Value) (below : List Frame) (meth : Method) (c : Code) (ls : Array Slot), ls_Fr p (lt_rm (n + 1) mi) s m args meth c D tyc A sa mi → meth.sig.returnType = (ct_mt mi).2.2.2.1 → (∀ x ∈ c.exceptionTable.toList, False) →
      ai_Rel D tyc A s sa ws0 (ct_mt mi).2.2.1 r ad L0 [] (sm_E (1, [], []) C.1, C.2.2.1, 0, 0) s.heap [] ls [] →
      W p l e (lt_rm (n + 1) mi) s m args below meth c s.heap [] 0 0 (vx_MQ below (ai_Qc D tyc A sa ws0 r ad (sm_E (1, [], []) C.1).1 C.2.2.1.1 (C.2.2.2.map (sm_out (sm_E (1, [], []) C.1)))) (ai_XC D tyc A sa ws0 r ad (sm_E (1, [], []) C.1).1 C.2.2.1.1 (C.2.2.2.map (sm_out (sm_E (1, [], []) C.1)))) args s (lt_rm (n + 1) mi).cells (lt_rm (n + 1) mi).slots A) (F0 m 0 ls [])) : gx_ok (n + 1) mi (C, gs) := by
  have hpl' := hpl
  unfold ls_plain at hpl'
  simp only [Bool.and_eq_true, Bool.not_eq_true', Option.isNone_iff_eq_none] at hpl'
  obtain ⟨g1, g2, g3⟩ := hpl'
  obtain ⟨mok, htab⟩ := ls_known g1
  refine ⟨hck, mok, fun l D tyc A sa hl ws0 r ad H0 As hPw hWd hA hsd => ?_⟩
  refine hb_met (y := ct_mt mi) sc_all mok g2 ⟨by show 8 ≤ n + 1 + 0 + 8; omega, by show 400 ≤ 64 * (n + 1 + 0) + 400; omega⟩ (fun p e s m below meth c F hret htb hheap => ?_)
  have hWd' := hWd
  obtain ⟨ws, -, -, hE, -⟩ := hWd'
  refine body l D tyc A sa hl ws0 r ad hPw hE hsd p e s m As.toArray below meth c _ F hret htb ?_
  exact (show ai_Wd D tyc A sa ws0 r ad (sm_E (1, [], []) C.1, C.2.2.1, 0, 0) s.heap by rw [hheap]; exact hWd).rel va_S.rf (ai_entry_ok hL0 hA) trivial
