/-! THE LAW: from a call's kind to the head again -/
/-- arrays left alone: the tapes, the codes of both sides -/
noncomputable def gw_l : List (Nat × Nat × Nat) := [(85, 200, 0), (86, 200, 0), (285, 200, 0), (286, 5, 0), (287, 40, 0), (288, 40, 0), (289, 40, 0), (290, 2000, 0), (47, 200, 0), (53, 200, 0), (59, 200, 0), (65, 200, 0)]
noncomputable def gw_I (M : Nat → Nat → Int) : Prop := gz_pw M ∧ ∀ j, j < 200 → M 86 j = M 285 j ∧ 0 ≤ M 86 j ∧ M 86 j ≤ 255
theorem gw_m (q n : Nat) (h : gw_l.elem (q, n, 0) = true) : (q, n, 0) ∈ gw_l := List.mem_of_elem_eq_true h
theorem gw_I_c {M M' : Nat → Nat → Int} (h : gw_I M) (e : ∀ z ∈ gw_l, M' z.1 = M z.1) : gw_I M' := by
  have e1 : M' 286 = M 286 := e _ (gw_m 286 5 (by decide))
  have e2 : M' 288 = M 288 := e _ (gw_m 288 40 (by decide))
  have e3 : M' 289 = M 289 := e _ (gw_m 289 40 (by decide))
  have e4 : M' 290 = M 290 := e _ (gw_m 290 2000 (by decide))
  have e5 : M' 86 = M 86 := e _ (gw_m 86 200 (by decide))
  have e6 : M' 285 = M 285 := e _ (gw_m 285 200 (by decide))
  refine ⟨gz_pw_c h.1 (fun z x w => ?_), fun j hj => by rw [e5, e6]; exact h.2 j hj⟩
  rcases w with ⟨w, -⟩ | ⟨w | w, -⟩ | ⟨w, -⟩
  · rw [w, e1]
  · rw [w, e2]
  · rw [w, e3]
  · rw [w, e4]
/-- a mill's offer: the same codes on both sides; the reference's mark; no offer where no mill is -/
noncomputable def gw_K1 (v : Nat) (l : List Int) (M : Nat → Nat → Int) (r : Nat → Int) : Prop := (ps_gc l ∧ l.length ≤ 200) ∧ (r (lx_oc v) = (l.length : Int) ∧ ∀ j, j < l.length → M (47 + 6 * v) j = l.getD j 0) ∧ go_K v l M ∧ (r (lx_hs v) = if l = [] then 0 else 1) ∧ (r 73 ≤ (v : Int) → l = [])
noncomputable def gw_K (M : Nat → Nat → Int) (r : Nat → Int) : Prop := ∃ l : Nat → List Int, ∀ v, v < 4 → gw_K1 v (l v) M r
theorem go_K_c {v : Nat} {l : List Int} {M M' : Nat → Nat → Int} (h : go_K v l M) (e1 : M' 286 v = M 286 v) (e2 : ∀ z, (z = 287 ∨ z = 288 ∨ z = 289) → ∀ k, k < 8 → M' z (8 * v + k) = M z (8 * v + k)) (e3 : ∀ j, j < 400 → M' 290 (400 * v + j) = M 290 (400 * v + j)) (hl : (gb_cs l).length ≤ 400) : go_K v l M' := by
  obtain ⟨h1, ⟨h2, h3⟩, h4, h5⟩ := h
  refine ⟨h1, ⟨h2, e1.trans h3⟩, fun k hk => ?_, fun j hj => (e3 j (by omega)).trans (h5 j hj)⟩
  obtain ⟨a, b, c⟩ := h4 k hk
  exact ⟨(e2 287 (by omega) k (by omega)).trans a, (e2 288 (by omega) k (by omega)).trans b, (e2 289 (by omega) k (by omega)).trans c⟩
theorem gw_lc {l : List Int} (h : l.length ≤ 200) : (gb_cs l).length ≤ 400 := by
  have k : ∀ l : List Int, (gb_cs l).length ≤ 2 * l.length := fun l => by
    induction l with
    | nil => exact Nat.le_refl _
    | cons c l ih =>
      rw [gb_cs_c, List.length_append, List.length_cons]
      have : (gb_enc c).length ≤ 2 := by
        unfold gb_enc
        split
        · exact Nat.le_refl 2
        · split
          · exact Nat.le_succ 1
          · split
            · exact Nat.le_succ 1
            · split
              · exact Nat.le_succ 1
              · split
                · exact Nat.le_succ 1
                · split
                  · exact Nat.le_succ 1
                  · exact Nat.zero_le 2
      omega
  have := k l
  omega
theorem gw_K_k {M : Nat → Nat → Int} {r r2 : Nat → Int} (h : gw_K M r) (g : lx_kp r r2) : gw_K M r2 := by
  obtain ⟨l, h⟩ := h
  refine ⟨l, fun v hv => ?_⟩
  obtain ⟨a, b, c, d, e⟩ := h v hv
  exact ⟨a, ⟨by rw [g _ (lx_Ko hv)]; exact b.1, b.2⟩, c, by rw [g _ (lx_Kh hv)]; exact d, by rw [g _ lx_KM]; exact e⟩
theorem gw_K_c2 {M M' : Nat → Nat → Int} {r : Nat → Int} (h : gw_K M r) (e : ∀ z n, (z, n, 0) ∈ gw_l → z ≠ 86 → z ≠ 285 → M' z = M z) : gw_K M' r := by
  have e1 : M' 286 = M 286 := e _ 5 (gw_m 286 5 (by decide)) (by decide) (by decide)
  have e0 : M' 287 = M 287 := e _ 40 (gw_m 287 40 (by decide)) (by decide) (by decide)
  have e2 : M' 288 = M 288 := e _ 40 (gw_m 288 40 (by decide)) (by decide) (by decide)
  have e3 : M' 289 = M 289 := e _ 40 (gw_m 289 40 (by decide)) (by decide) (by decide)
  have e4 : M' 290 = M 290 := e _ 2000 (gw_m 290 2000 (by decide)) (by decide) (by decide)
  have ev : ∀ v, v < 4 → M' (47 + 6 * v) = M (47 + 6 * v) := fun v hv => by
    rcases (by omega : v = 0 ∨ v = 1 ∨ v = 2 ∨ v = 3) with rfl | rfl | rfl | rfl
    · exact e _ 200 (gw_m 47 200 (by decide)) (by decide) (by decide)
    · exact e _ 200 (gw_m 53 200 (by decide)) (by decide) (by decide)
    · exact e _ 200 (gw_m 59 200 (by decide)) (by decide) (by decide)
    · exact e _ 200 (gw_m 65 200 (by decide)) (by decide) (by decide)
  obtain ⟨l, h⟩ := h
  refine ⟨l, fun v hv => ?_⟩
  obtain ⟨a, b, c, d, g⟩ := h v hv
  refine ⟨a, ⟨b.1, fun j hj => by rw [ev v hv]; exact b.2 j hj⟩, go_K_c c (by rw [e1]) (fun z hz k _ => ?_) (fun j _ => by rw [e4]) (gw_lc a.2), d, g⟩
  rcases hz with rfl | rfl | rfl
  · rw [e0]
  · rw [e2]
  · rw [e3]
theorem gw_K_c {M M' : Nat → Nat → Int} {r : Nat → Int} (h : gw_K M r) (e : ∀ z ∈ gw_l, M' z.1 = M z.1) : gw_K M' r := gw_K_c2 h (fun z n hz _ _ => e (z, n, 0) hz)
/-- a call for a mill -/
theorem gw_K_m {M : Nat → Nat → Int} {r r2 : Nat → Int} {k k2 : Nat} (h : gw_K M r) (h1 : r 73 = (k : Int)) (h2 : r2 73 = (k2 : Int)) (hkk : k ≤ k2) (ho : ∀ v, v < 4 → r2 (lx_oc v) = r (lx_oc v)) (hh : ∀ v, v < 4 → v ≠ k → r2 (lx_hs v) = r (lx_hs v)) (hk : k < 4 → r2 (lx_hs k) = r (lx_hs k) ∨ r2 (lx_hs k) = 0) : gw_K M r2 := by
  obtain ⟨l, h⟩ := h
  refine ⟨l, fun v hv => ?_⟩
  obtain ⟨a, b, c, d, e⟩ := h v hv
  refine ⟨a, ⟨by rw [ho v hv]; exact b.1, b.2⟩, c, ?_, fun q => e (by omega)⟩
  by_cases q : v = k
  · subst q
    rcases hk hv with w | w
    · rw [w]
      exact d
    · rw [w, if_pos (e (by omega))]
  · rw [hh v hv q]
    exact d
noncomputable def cl_V (tyc : Nat → ClassId) (ws : va_W) (r : Nat → Int) : Prop := ∃ M, pt_M tyc gw_l ws M ∧ gw_I M ∧ gw_K M r
theorem gw_px {tyc : Nat → ClassId} {ws : va_W} {M : Nat → Nat → Int} (h : pt_M tyc gw_l ws M) : ai_Px tyc ws := pt_px_of h (by decide)
theorem cl_V.pw {tyc : Nat → ClassId} {ws : va_W} {r : Nat → Int} (h : cl_V tyc ws r) : ai_Pw tyc ws := by
  obtain ⟨M, h1, h2, -⟩ := h
  exact pt_pw_of (gw_m 286 5 (by decide)) (gw_m 288 40 (by decide)) (gw_m 289 40 (by decide)) (gw_m 290 2000 (by decide)) h1 h2.1 (gw_px h1)
theorem cl_V.k {tyc : Nat → ClassId} {ws : va_W} {r r2 : Nat → Int} (h : cl_V tyc ws r) (g : lx_kp r r2) : cl_V tyc ws r2 := by
  obtain ⟨M, h1, h2, h3⟩ := h
  exact ⟨M, h1, h2, gw_K_k h3 g⟩
/-- at the law's start -/
noncomputable def cl_V0 (tyc : Nat → ClassId) (ws : va_W) : Prop := pt_M tyc gw_l ws (fun _ _ => 0)
/-- the world's arrays left alone, and what is known of its numbers -/
noncomputable def lx_V (tyc : Nat → ClassId) (ws : va_W) (r : Nat → Int) : Prop := cl_V tyc ws r ∧ lx_J r
theorem lx_V_0 {tyc : Nat → ClassId} {ws : va_W} {r : Nat → Int} (h : cl_V0 tyc ws) (g : ∀ q ∈ lx_ji, r q.1 = q.2) : lx_V tyc ws r := by
  have z : ∀ t ∈ lx_Kt, r t = 0 := fun t ht => g (t, 0) (List.mem_map.mpr ⟨t, (lx_Kj ht).1, rfl⟩)
  refine ⟨⟨fun _ _ => 0, h, ⟨fun m hm => ⟨⟨Int.le_refl _, (by decide : (0 : Int) ≤ 8)⟩, fun k hk => ?_⟩, fun j _ => ⟨rfl, Int.le_refl _, (by decide : (0 : Int) ≤ 255)⟩⟩, fun _ => [], fun v hv => ?_⟩, lx_J0 g⟩
  · have hk : (k : Int) < 0 := hk
    omega
  · refine ⟨⟨⟨[], rfl, fun q hq => by cases hq⟩, Nat.zero_le _⟩, ⟨z _ (lx_Ko hv), fun j hj => absurd hj (Nat.not_lt_zero j)⟩, ⟨Nat.zero_le _, ⟨Nat.zero_le _, rfl⟩, fun k hk => absurd hk (Nat.not_lt_zero k), fun j hj => absurd hj (Nat.not_lt_zero j)⟩, ?_, fun _ => rfl⟩
    rw [z _ (lx_Kh hv)]
    rfl
theorem lx_V_r {tyc : Nat → ClassId} {ws : va_W} {r r2 : Nat → Int} (hV : lx_V tyc ws r) (key : ∀ t ∈ lx_Jt, r2 t = r t) : lx_V tyc ws r2 := ⟨hV.1.k (fun t ht => key t (lx_Kj ht).1), lx_J_keep hV.2 key⟩
theorem lx_V_k {tyc : Nat → ClassId} {ws : va_W} {r r' r2 : Nat → Int} {N : Nat} {o : List (Nat × ai_X)} (hV : lx_V tyc ws r) (hx : ai_ext N r r') (hN : lx_JN N = true) (ho : ∀ q ∈ lx_jo, q ∈ o) (u : ∀ q ∈ o, r2 q.1 = ai_vx r' q.2) : lx_V tyc ws r2 := lx_V_r hV (fun t ht => by
  have h := u (t, (t, 0)) (ho _ (List.mem_map.mpr ⟨t, ht, rfl⟩))
  have h : r2 t = r' t + 0 := h
  rw [h, hx t (Nat.le_of_ble_eq_true (List.all_eq_true.mp hN t ht)), Int.add_zero])
theorem lx_V_x {tyc : Nat → ClassId} {ws : va_W} {r r' : Nat → Int} {N : Nat} (hV : lx_V tyc ws r) (hx : ai_ext N r r') (hN : lx_JN N = true) : lx_V tyc ws r' := lx_V_r hV (fun t ht => hx t (Nat.le_of_ble_eq_true (List.all_eq_true.mp hN t ht)))
theorem lx_V_m {tyc : Nat → ClassId} {ws : va_W} {r r' r2 : Nat → Int} {N k k2 : Nat} {o : List (Nat × ai_X)} (hV : lx_V tyc ws r) (h0 : r 0 = 0) (hk : r 73 = (k : Int)) (hk4 : k ≤ 4) (hkk : k ≤ k2) (hx : ai_ext N r r') (hN : lx_JN N = true) (hm : r2 73 = (k2 : Int)) (ho : ∀ q ∈ lx_jom k k2, q ∈ o) (u : ∀ q ∈ o, r2 q.1 = ai_vx r' q.2) : lx_V tyc ws r2 := by
  obtain ⟨a, b⟩ := lx_jmo hx hN ho u
  have lt0 : ∀ t ∈ lx_Jt, t < N := fun t ht => Nat.le_of_ble_eq_true (List.all_eq_true.mp hN t ht)
  obtain ⟨M, h1, h2, h3⟩ := hV.1
  have ne : ∀ v, v < 4 → lx_jmx k (lx_oc v) = false ∧ (v ≠ k → lx_jmx k (lx_hs v) = false) := fun v hv => by
    have w : (List.range 5).all (fun k => (List.range 4).all (fun v => !(lx_jmx k (lx_oc v)) && (Nat.beq v k || !(lx_jmx k (lx_hs v))))) = true := by decide +kernel
    have g := List.all_eq_true.mp (List.all_eq_true.mp w k (List.mem_range.mpr (by omega))) v (List.mem_range.mpr hv)
    rw [Bool.and_eq_true, Bool.not_eq_true', Bool.or_eq_true, Bool.not_eq_true'] at g
    refine ⟨g.1, fun q => ?_⟩
    rcases g.2 with g | g
    · exact absurd (Nat.eq_of_beq_eq_true g) q
    · exact g
  have z0 : r' 0 = 0 := (hx 0 (Nat.lt_of_le_of_lt (Nat.zero_le _) (lt0 _ (lx_Kj lx_KM).1))).trans h0
  refine ⟨⟨M, h1, h2, gw_K_m h3 hk hm hkk (fun v hv => a _ (lx_Kj (lx_Ko hv)).1 (ne v hv).1) (fun v hv q => a _ (lx_Kj (lx_Kh hv)).1 ((ne v hv).2 q)) (fun q => ?_)⟩, lx_J_keep2 hV.2 (fun t ht hw => a t ht ?_)⟩
  · rcases b q with w | w
    · exact Or.inl w
    · exact Or.inr (w.trans z0)
  · cases e : lx_jmx k t with
    | false => rfl
    | true =>
      exfalso
      unfold lx_jmx at e
      rw [Bool.or_eq_true, Bool.and_eq_true] at e
      have m : t ∈ lx_Kt := by
        rcases e with e | ⟨e1, e2⟩
        · rw [Nat.eq_of_beq_eq_true e]
          exact lx_KM
        · rw [Nat.eq_of_beq_eq_true e2]
          exact lx_Kh (Nat.le_of_ble_eq_true e1)
      rw [List.elem_eq_true_of_mem m] at hw
      cases hw
theorem lx_N (v j : Nat) : (lx_G v j).1.1 = lx_nn j + 1 := (lx_El_eq v j).2.2
theorem lx_f4 : (match ai_cell lx_h 264 with
  | some (.inl (_, fs)) => decide (fs[4]? = some (.inl (73, 0)))
  | _ => false) = true := by decide +kernel
theorem lx_fs : ∃ ci fs, ai_cell lx_h 264 = some (.inl (ci, fs)) ∧ fs[4]? = some (.inl (73, 0)) := by
  have h := lx_f4
  split at h
  · rename_i ci fs ec
    exact ⟨ci, fs, ec, of_decide_eq_true h⟩
  · cases h
theorem lx_gF_set {r : Nat → Int} {ad : Nat → Nat} {N n : Nat} {x y : ai_X} (hy : y.1 < N) (hv : ai_vx r y = ai_vx r x) : ∀ {i : Nat} {fs : List ai_V} {vs : List Value}, fs[i]? = some (.inl x) → ai_gF r ad N n fs vs → ai_gF r ad N n (fs.set i (.inl y)) vs
  | _, [], _, h, _ => by cases h
  | _, _ :: _, [], _, g => g.elim
  | 0, f :: fs, v :: vs, h, g => by
    have h : some f = some (.inl x) := h
    cases h
    obtain ⟨⟨g1, z, g2, g3⟩, g4⟩ := g
    exact ⟨⟨hy, z, g2, g3.trans hv.symm⟩, g4⟩
  | i + 1, f :: fs, v :: vs, h, g => ⟨g.1, lx_gF_set hy hv (i := i) h g.2⟩
section LK
variable {p : Program} {l : Launch} {e : Env} {R : Room} {s : State} {m : MethodId} {args : Array Value} {below : List Frame} {meth : Method} {c : Code} {Q : State → Prop}
variable {D : va_G} {tyc : Nat → ClassId} {A : Nat → Prop} {sa : ai_B} {ws : va_W} {b Ln z0 w v k : Nat} {xs : Nat → Int32}
variable {r : Nat → Int} {ad : Nat → Nat} {H : Heap} {locs : List Loc} {ls : Array Slot} {st : List Value}
/-- what is wanted of a state at the head again -/
noncomputable def lx_Kn (p : Program) (l : Launch) (e : Env) (R : Room) (s : State) (m : MethodId) (args : Array Value) (below : List Frame) (meth : Method) (c : Code) (Q : State → Prop) (D : va_G) (tyc : Nat → ClassId) (A : Nat → Prop) (sa : ai_B) (b : Nat) (i : Int) : Prop :=
  ∀ (v k : Nat) (ws : va_W) (r : Nat → Int) (ad : Nat → Nat) (H : Heap) (locs : List Loc) (ls : Array Slot) (st : List Value) (cs sl : Nat), v ≤ k → k ≤ 4 → cs ≤ 1 → sl ≤ 6 → lx_V tyc ws r → ai_Rel D tyc A s sa ws 7 r ad lx_L [] (lx_G v 0) H locs ls st → r 1 = i + 10 → r 73 = (k : Int) → ad 0 = b → W p l e R s m args below meth c H locs cs sl Q (F0 m 23 ls st)
set_option maxHeartbeats 1000000 in
theorem lx_kind (hK : lx_K w v) (F : lx_Fr p R s m args meth c D tyc A sa) (hl : l.stackTraces = false) (hRf : 74 ≤ R.frames) (hRl : 4624 ≤ R.locals) (hsa : (z0, b, Ln, xs) ∈ sa.2) (hV : lx_V tyc ws r) (hvk : v ≤ k) (hk4 : k ≤ 4) (hR : ai_Rel D tyc A s sa ws 7 r ad lx_L [.inl (0, .ofNat w)] (lx_G v 1) H locs ls st) (hi : 0 ≤ r 1 ∧ r 1 + 10 ≤ (Ln : Int)) (h5 : r 1 ≤ 5110) (h110 : r 73 = (k : Int)) (had : ad 0 = b)
    (kn : lx_Kn p l e R s m args below meth c Q D tyc A sa b (r 1)) : W p l e R s m args below meth c H locs 0 0 Q (F0 m 40 ls st) := by
  obtain ⟨T, hT, hck⟩ := hK
  unfold lx_ck at hck
  split at hck
  · rename_i fs hrun
    have hN : (lx_G v 1).1.1 = 382 := lx_N v 1
    have hRc := hg_cap_ok hR (t := 1) (b := (0, 5110)) (by rw [hN]; omega) ⟨hi.1, h5⟩
    refine lx_ok (k0 := 60) (G := hg_cap (lx_G v 1) 1 (0, 5110)) F hl hT (by omega) (by omega) hV.1.pw hsa 16 [] false 40 lx_L _ fs r ad H locs ls st hrun hRc (by show 1 < (lx_G v 1).1.1; rw [hN]; omega) (by show 0 < 336; omega) hi had (fun q hq => by cases hq) (fun q hq => by cases hq) (fun f hf r' ad' x1 x2 x3 x4 H' locs' ls' st' hR' => ?_)
    have x1 : ai_ext (lx_G v 1).1.1 r r' := x1
    rw [hN] at x1
    obtain ⟨e1, e2, e3, r2, hR2, u⟩ := lx_to_ok (List.all_eq_true.mp hck f hf) hR'
    rw [e1]
    have q1 : r2 1 = r' 1 + 10 := u _ List.mem_cons_self
    have q2 : r2 73 = r' 73 + 0 := u _ (List.mem_cons_of_mem _ List.mem_cons_self)
    exact kn v k ws r2 ad' H' locs' ls' st' _ _ hvk hk4 e2 e3 (lx_V_k hV x1 (by decide +kernel) lx_j2 u) hR2 (by rw [q1, x1 1 (by omega)]) (by rw [q2, x1 73 (by omega), h110, Int.add_zero]) ((x2 0 (by show 0 < 336; omega)).trans had)
  · cases hck
end LK
