/-! THE LAW: offer -/
noncomputable def lx_S8 : List ai_V := [.inl (151, 0), .inl (152, 0), .inr (.inr (some (some 264)))]
noncomputable def lx_T8 : List (Nat × us_C) := [(63, cn_learn0), (63, cn_learn1), (63, cn_learn2), (63, cn_learn3), (88, cn_read)]
theorem lx_T8_ok : lt_all 92 lx_T8 := ⟨cp_learn0.mono (by decide), cp_learn1.mono (by decide), cp_learn2.mono (by decide), cp_learn3.mono (by decide), cp_read.mono (by decide), trivial⟩
noncomputable def lx_oA : List (Nat × ai_X) := [(1, (1, 0)), (103, (103, 0)), (105, (105, 0))]
theorem lx_kl_ne {x : Nat} (hx : x ∈ lx_kl) : x ≠ 6 := by
  have g := List.all_eq_true.mp lx_klok x hx
  simp only [Bool.and_eq_true, Bool.not_eq_true'] at g
  exact Nat.ne_of_beq_eq_false g.2.2.2.1
/-- the state at the reference's call: what has been asked is known, and the class's count is as the answer says -/
noncomputable def ly_at (v : Nat) (f : ai_F) : Bool := match f.2.2.1 with
  | .inl xn :: .inl xm :: _ => (Nat.blt xn.1 f.2.2.2.1.1 && (Nat.blt xm.1 f.2.2.2.1.1 && Nat.blt 105 f.2.2.2.1.1)) &&
    ((cq_bad f.2.2.2.1 xm xn (103, 0) (105, 0) && ly_to v 3 lx_S8 731 (lx_oA ++ [(151, xn), (152, xm), (153, (105, 0))]) f) ||
     (cq_good f.2.2.2.1 xm xn (103, 0) (105, 0) && ly_to v 3 lx_S8 731 (lx_oA ++ [(151, xn), (152, xm), (153, (0, 0))]) f))
  | _ => false
section LYA
variable {s : State} {D : va_G} {tyc : Nat → ClassId} {A : Nat → Prop} {sa : ai_B} {ws : va_W} {nL : Nat} {r : Nat → Int} {ad : Nat → Nat} {H : Heap} {locs : List Loc} {ls : Array Slot} {st : List Value} {v : Nat}
theorem ly_at_ok {f : ai_F} (h : ly_at v f = true) (hR : ai_Rel D tyc A s sa ws nL r ad f.2.1 f.2.2.1 f.2.2.2 H locs ls st) : f.1 = 731 ∧ f.2.2.2.2.2.1 ≤ 1 ∧ f.2.2.2.2.2.2 ≤ 6 ∧ ∃ r2, ai_Rel D tyc A s sa ws nL r2 ad lx_L lx_S8 (lx_El v 3, ly_h, 0, 0) H locs ls st ∧ (∀ q ∈ lx_oA, r2 q.1 = ai_vx r q.2) ∧
    ((cq_B (r2 152) (r2 151) (r2 103) (r2 105) ∧ r2 153 = r2 105) ∨ (¬ cq_B (r2 152) (r2 151) (r2 103) (r2 105) ∧ r2 153 = 0)) := by
  unfold ly_at at h
  split at h
  · rename_i xn xm tl e
    simp only [Bool.and_eq_true] at h
    obtain ⟨⟨b1, b2, b3⟩, h⟩ := h
    have b1 : xn.1 < f.2.2.2.1.1 := Nat.le_of_ble_eq_true b1
    have b2 : xm.1 < f.2.2.2.1.1 := Nat.le_of_ble_eq_true b2
    have b3 : 105 < f.2.2.2.1.1 := Nat.le_of_ble_eq_true b3
    rw [Bool.or_eq_true, Bool.and_eq_true, Bool.and_eq_true] at h
    rcases h with ⟨hq, ht⟩ | ⟨hq, ht⟩
    · obtain ⟨e1, e2, e3, r2, hR2, u⟩ := ly_to_ok ht hR
      have um := u (103, (103, 0)) (List.mem_append_left _ (List.mem_cons_of_mem _ List.mem_cons_self))
      have u0 := u (105, (105, 0)) (List.mem_append_left _ (List.mem_cons_of_mem _ (List.mem_cons_of_mem _ List.mem_cons_self)))
      have un := u (151, xn) (List.mem_append_right _ List.mem_cons_self)
      have uk := u (152, xm) (List.mem_append_right _ (List.mem_cons_of_mem _ List.mem_cons_self))
      have uc := u (153, (105, 0)) (List.mem_append_right _ (List.mem_cons_of_mem _ (List.mem_cons_of_mem _ List.mem_cons_self)))
      have g := cq_bad_ok hR.env b2 b1 (show ((103, 0) : ai_X).1 < f.2.2.2.1.1 by show 103 < _; omega) (show ((105, 0) : ai_X).1 < f.2.2.2.1.1 from b3) hq
      rw [← um, ← u0, ← un, ← uk] at g
      exact ⟨e1, e2, e3, r2, hR2, fun q hq => u q (List.mem_append_left _ hq), Or.inl ⟨g, uc.trans u0.symm⟩⟩
    · obtain ⟨e1, e2, e3, r2, hR2, u⟩ := ly_to_ok ht hR
      have um := u (103, (103, 0)) (List.mem_append_left _ (List.mem_cons_of_mem _ List.mem_cons_self))
      have u0 := u (105, (105, 0)) (List.mem_append_left _ (List.mem_cons_of_mem _ (List.mem_cons_of_mem _ List.mem_cons_self)))
      have un := u (151, xn) (List.mem_append_right _ List.mem_cons_self)
      have uk := u (152, xm) (List.mem_append_right _ (List.mem_cons_of_mem _ List.mem_cons_self))
      have uc := u (153, (0, 0)) (List.mem_append_right _ (List.mem_cons_of_mem _ (List.mem_cons_of_mem _ List.mem_cons_self)))
      have g := cq_good_ok hR.env b2 b1 (show ((103, 0) : ai_X).1 < f.2.2.2.1.1 by show 103 < _; omega) (show ((105, 0) : ai_X).1 < f.2.2.2.1.1 from b3) hq
      rw [← um, ← u0, ← un, ← uk] at g
      have z : ai_vx r (0, 0) = 0 := by
        show r 0 + 0 = 0
        rw [hR.env.1]; rfl
      exact ⟨e1, e2, e3, r2, hR2, fun q hq => u q (List.mem_append_left _ hq), Or.inr ⟨g, uc.trans z⟩⟩
  · cases h
end LYA
/-! a cell whose number is told in another way -/
noncomputable def ly_rl (x y : ai_X) : List ai_V → List ai_V → Bool
  | [], [] => true
  | a :: l, b :: m => (decide (a = b) || (decide (a = .inl x) && decide (b = .inl y))) && ly_rl x y l m
  | _, _ => false
theorem ly_rl_ok {r : Nat → Int} {ad : Nat → Nat} {N n : Nat} {x y : ai_X} (hxy : ai_vx r x = ai_vx r y) (hy : y.1 < N) : ∀ {l m : List ai_V} {vs : List Value}, ly_rl x y l m = true → ai_gF r ad N n l vs → ai_gF r ad N n m vs
  | [], [], _, _, g => g
  | [], _ :: _, _, h, _ => by cases h
  | _ :: _, [], _, h, _ => by cases h
  | a :: l, b :: m, [], h, g => g.elim
  | a :: l, b :: m, v :: vs, h, g => by
    unfold ly_rl at h
    rw [Bool.and_eq_true, Bool.or_eq_true, Bool.and_eq_true] at h
    refine ⟨?_, ly_rl_ok hxy hy h.2 g.2⟩
    rcases h.1 with h1 | ⟨h1, h2⟩
    · rw [← of_decide_eq_true h1]
      exact g.1
    · have g1 := g.1
      rw [of_decide_eq_true h1] at g1
      rw [of_decide_eq_true h2]
      obtain ⟨-, i, e, z⟩ := g1
      exact ⟨hy, i, e, z.trans hxy⟩
noncomputable def lx_c9 : ai_C := .inl (8, [.inr (.inr (some (some 85))), .inl (66, .ofNat 0), .inl (105, .ofNat 0), .inl (67, .ofNat 0), .inr (.inr (some (some 86))), .inl (68, .ofNat 0), .inl (69, .ofNat 0), .inl (70, .ofNat 0), .inl (71, .ofNat 0), .inl (72, .ofNat 0), .inl (73, .ofNat 0)])
noncomputable def lz_h : ai_H := (336, ai_tset 9 ly_h.2 84 (some lx_c9))
noncomputable def ly_rc : Bool := (match ai_cell ly_h 84, ly_c with | some (.inl (ci, l)), .inl (cj, m) => Nat.beq ci cj && decide (l = m) | _, _ => false) && (match ly_c, lx_c9 with | .inl (ci, l), .inl (cj, m) => Nat.beq ci cj && ly_rl (153, 0) (105, 0) l m | _, _ => false)
theorem ly_rc_ok : ly_rc = true := by decide +kernel
theorem ly_rcell : ai_cell ly_h 84 = some ly_c := by
  have h := ly_rc_ok
  unfold ly_rc at h
  rw [Bool.and_eq_true] at h
  have h := h.1
  split at h
  · rename_i ci l cj m e1 e2
    rw [Bool.and_eq_true] at h
    rw [e1, e2, Nat.eq_of_beq_eq_true h.1, of_decide_eq_true h.2]
  · cases h
theorem ly_rgC {tyc : Nat → ClassId} {r : Nat → Int} {ad : Nat → Nat} {N n : Nat} (hxy : ai_vx r (153, 0) = ai_vx r (105, 0)) (hy : 105 < N) {e : va_E} (g : ai_gC tyc r ad N n ly_c e) : ai_gC tyc r ad N n lx_c9 e := by
  have h := ly_rc_ok
  unfold ly_rc at h
  rw [Bool.and_eq_true] at h
  have h := h.2
  split at h
  · rename_i ci l cj m e1 e2
    rw [Bool.and_eq_true] at h
    have hc := Nat.eq_of_beq_eq_true h.1
    subst hc
    rw [e1] at g
    rw [e2]
    obtain ⟨vs, g1, g2⟩ := g
    exact ⟨vs, g1, ly_rl_ok hxy hy h.2 g2⟩
  · cases h
noncomputable def lx_ofA (v : Nat) : Bool := match lx_run lx_T8 [731] 16 [] false 40 lx_L [.inl (0, .ofNat 8)] (hg_cap (lx_G v 1) 1 (0, 5110)) with
  | some fs => fs.all (ly_at v)
  | none => false
noncomputable def ly_G16 (v : Nat) : ai_G := (lx_El v 3, ly_h, 1, 6)
noncomputable def lx_G16 (v : Nat) : ai_G := (lx_El v 3, lz_h, 1, 6)
noncomputable def lx_ofC (v : Nat) : Bool := match lx_run [] [23] 16 [] false 734 lx_L [.inl (151, 0)] (hg_cap (lx_G16 v) 1 (0, 5110)) with
  | some fs => fs.all (lx_to v 0 [] 23 lx_o)
  | none => false
theorem lx_a0 : (lx_ofA 0 && lx_ofC 0) = true := by decide +kernel
theorem lx_a1 : (lx_ofA 1 && lx_ofC 1) = true := by decide +kernel
theorem lx_a2 : (lx_ofA 2 && lx_ofC 2) = true := by decide +kernel
theorem lx_a3 : (lx_ofA 3 && lx_ofC 3) = true := by decide +kernel
theorem lx_a4 : (lx_ofA 4 && lx_ofC 4) = true := by decide +kernel
theorem lx_av : ∀ v, v < 5 → (lx_ofA v && lx_ofC v) = true := fun v hv => match v, hv with
  | 0, _ => lx_a0
  | 1, _ => lx_a1
  | 2, _ => lx_a2
  | 3, _ => lx_a3
  | 4, _ => lx_a4
  | n + 5, h => absurd h (by omega)
noncomputable def lx_vck : Bool := match lx_code 731 with
  | some (i, len, a, b) => Nat.beq (fn_knd i).1 3 && (Nat.beq a 203 && (Nat.beq len 3 && (match ai_vcall 203 (Nat.mod b 64) (Nat.div b 64) 734 lx_S8 ly_h with
    | some (.inr (.inl (m', aa', S2, p'))) => Nat.beq m' 203 && (decide (aa' = [.inr (.inr (some (some 264))), .inl (152, 0), .inl (151, 0)]) && (decide (S2 = []) && Nat.beq p' 734))
    | _ => false)))
  | none => false
theorem lx_vk : lx_vck = true := by decide +kernel
theorem lx_vk' : ∃ idx b, lx_code 731 = some (.invokevirtual idx, 3, 203, b) ∧ ai_vcall 203 (Nat.mod b 64) (Nat.div b 64) 734 lx_S8 ly_h = some (.inr (.inl (203, [.inr (.inr (some (some 264))), .inl (152, 0), .inl (151, 0)], [], 734))) := by
  have h := lx_vk
  unfold lx_vck at h
  split at h
  · rename_i i len a b ec
    simp only [Bool.and_eq_true] at h
    obtain ⟨h1, h2, h3, h4⟩ := h
    obtain ⟨idx, hi⟩ := fn_knd3 (Nat.eq_of_beq_eq_true h1)
    have h2 := Nat.eq_of_beq_eq_true h2
    have h3 := Nat.eq_of_beq_eq_true h3
    subst hi h2 h3
    split at h4
    · rename_i m' aa' S2 p' ev
      simp only [Bool.and_eq_true, decide_eq_true_eq] at h4
      obtain ⟨k1, k2, k3, k4⟩ := h4
      have k1 := Nat.eq_of_beq_eq_true k1
      have k4 := Nat.eq_of_beq_eq_true k4
      subst k1 k2 k3 k4
      exact ⟨idx, b, ec, ev⟩
    · cases h4
  · cases h
theorem lx_Luv : lx_L.all lx_uv = true := by decide +kernel
section LO
variable {p : Program} {l : Launch} {e : Env} {R : Room} {s : State} {m : MethodId} {args : Array Value} {below : List Frame} {meth : Method} {c : Code} {Q : State → Prop}
variable {D : va_G} {tyc : Nat → ClassId} {A : Nat → Prop} {sa : ai_B} {ws : va_W} {b Ln z0 v k : Nat} {xs : Nat → Int32}
variable {r : Nat → Int} {ad : Nat → Nat} {H : Heap} {locs : List Loc} {ls : Array Slot} {st : List Value}
set_option maxHeartbeats 2000000 in
theorem lx_offer (F : lx_Fr p R s m args meth c D tyc A sa) (hl : l.stackTraces = false) (hRf : 111 ≤ R.frames) (hRl : 8000 ≤ R.locals) (hsa : (z0, b, Ln, xs) ∈ sa.2) (hV : cl_V tyc ws) (hvk : v ≤ k) (hk4 : k ≤ 4) (hR : ai_Rel D tyc A s sa ws 7 r ad lx_L [.inl (0, .ofNat 8)] (lx_G v 1) H locs ls st) (hi : 0 ≤ r 1 ∧ r 1 + 10 ≤ (Ln : Int)) (h5 : r 1 ≤ 5110) (h110 : r 103 = (k : Int)) (had : ad 0 = b)
    (kn : lx_Kn p l e R s m args below meth c Q D tyc A sa b (r 1)) : W p l e R s m args below meth c H locs 0 0 Q (F0 m 40 ls st) := by
  have hav := lx_av v (by omega)
  rw [Bool.and_eq_true] at hav
  obtain ⟨hA, hC⟩ := hav
  unfold lx_ofA at hA
  split at hA
  · rename_i fs hrun
    have hN : (lx_G v 1).1.1 = 152 := lx_N v 1
    have hN2 : (lx_G v 3).1.1 = 154 := lx_N v 3
    have hRc := hg_cap_ok hR (t := 1) (b := (0, 5110)) (by rw [hN]; omega) ⟨hi.1, h5⟩
    refine lx_ok (k0 := 92) (G := hg_cap (lx_G v 1) 1 (0, 5110)) F hl lx_T8_ok (by omega) (by omega) hV.pw hsa 16 [] false 40 lx_L _ fs r ad H locs ls st hrun hRc (by show 1 < (lx_G v 1).1.1; rw [hN]; omega) (by show 0 < 336; omega) hi had (fun q hq => by cases hq) (fun q hq => by cases hq) (fun f hf r' ad' x1 x2 x3 x4 H' locs' ls' st' hR' => ?_)
    have x1 : ai_ext (lx_G v 1).1.1 r r' := x1
    rw [hN] at x1
    obtain ⟨e1, e2, e3, r2, hR2, u, hBd⟩ := ly_at_ok (List.all_eq_true.mp hA f hf) hR'
    rw [e1]
    have q1 : r2 1 = r 1 := by
      have : r2 1 = r' 1 + 0 := u _ List.mem_cons_self
      rw [this, x1 1 (by omega), Int.add_zero]
    have q2 : r2 103 = (k : Int) := by
      have : r2 103 = r' 103 + 0 := u _ (List.mem_cons_of_mem _ List.mem_cons_self)
      rw [this, x1 103 (by omega), h110, Int.add_zero]
    have had' : ad' 0 = b := (x2 0 (by show 0 < 336; omega)).trans had
    refine W.widen e2 e3 ?_
    have hR3 : ai_Rel D tyc A s sa ws 7 r2 ad' lx_L lx_S8 (ly_G16 v) H' locs' ls' st' := hR2
    obtain ⟨hWd, hS, hL, hSt⟩ := hR2.wd
    obtain ⟨wsF, rp, f1, f2, f3, g, fb, hCl, hZ, hB, hWp, hrp, back⟩ := lx_emb hWd hV
    obtain ⟨idx, bb, ec, hv⟩ := lx_vk'
    obtain ⟨d1, -, -, -, d5⟩ := ck_286.tab 731 _ _ _ _ ec
    have hpl := of_pl.1
    unfold ls_plain at hpl
    simp only [Bool.and_eq_true] at hpl
    obtain ⟨mok, -⟩ := ls_known hpl.1
    have hbud := F.2.2.2.2.2.2.2.1
    have hb1 : (1 : Nat) = R.cells := hbud.1
    have hb2 : (6 : Nat) = R.slots := hbud.2
    have rb1 : (lt_rm 89 203).cells = 0 := by
      show (ct_bud 203).1 = 0
      rw [of_pl.2.1]
    have rb2 : (lt_rm 89 203).slots = 0 := by
      show (ct_bud 203).2 = 0
      rw [of_pl.2.1]
    refine hg_callv0 (G := ly_G16 v) (mj := 203) (y := ct_mt 203) (rm := lt_rm 89 203) (pc := 731) (Qc := of_Q D tyc A sa wsF (of_b rp (r2 152) (r2 151)) ad') F (fun w hw => (List.mem_filter.mp hw).2) (fun w hw => (List.mem_filter.mp hw).2) (d5 (by omega)) mok ⟨by show 89 + 0 + 8 + 1 ≤ R.frames; omega, by show 64 * (89 + 0) + 400 + 64 ≤ R.locals; omega⟩ d1 hv hR3 ⟨by rw [rb1, ← hb1]; exact Nat.le_refl _, by rw [rb2, ← hb2]; exact Nat.le_refl _⟩ (fun As gA _ => ?_) (fun a st0 t v1 rest locs1 he0 hq hrest hS1 => ?_)
    · obtain ⟨t1, rfl, z1, g1⟩ := gA.ref
      obtain ⟨vm, t2, rfl, z2, z3, g2⟩ := g1.int
      obtain ⟨vn, t3, rfl, z4, z5, g3⟩ := g2.int
      have : t3 = [] := by
        cases t3 with
        | nil => rfl
        | cons _ _ => exact g3.elim
      subst this
      have zm : vm.toInt = r2 152 := by
        have q : vm.toInt = r2 152 + 0 := z3
        rw [q, Int.add_zero]
      have zn : vn.toInt = r2 151 := by
        have q : vn.toInt = r2 151 + 0 := z5
        rw [q, Int.add_zero]
      rw [← zm, ← zn]
      exact pz_offer l D tyc A sa hl wsF f1 f2 f3 g fb rp ad' H' hCl hZ hB hWp vm vn
    · obtain ⟨i, ws', f1', f2', f3', g', fb', rq, ev, a1, a2, ⟨a3, a4⟩, a5, a6, a7⟩ := hq
      cases ev
      obtain ⟨ws2, r3, V2, W2, w1, w2, w3⟩ := back ws' rq t.heap f1' f2' f3' g' fb' i a1 a2 a3 a4 a5 (fun x hx => (lx_kl_fx a6 hx).trans (of_b_ne (lx_kl_ne hx)))
      have er : rest = [] := by
        cases rest with
        | nil => rfl
        | cons _ _ => exact hrest.elim
      subst er
      have hL3 : ai_gL r3 ad' (lx_G v 3).1.1 336 7 lx_L ls' := ⟨hL.1, hL.2.1, hL.2.2.1, fun j hj => by
        obtain ⟨z, b1, b2⟩ := hL.2.2.2 j hj
        exact ⟨z, b1, lx_ugV w1 (List.all_eq_true.mp lx_Luv _ (ai_lget_mem hj)) b2⟩⟩
      have hR4y : ai_Rel D tyc A s sa ws2 7 r3 ad' lx_L [.inl (151, 0)] (ly_G16 v) t.heap locs1 ls' [.int i] := W2.rel (hS1 a7) hL3 ⟨⟨by show 151 < (lx_G v 3).1.1; rw [hN2]; omega, i, rfl, by show i.toInt = r3 151 + 0; rw [w3, Int.add_zero]⟩, trivial⟩
      have c6 : rq 6 = of_b rp (r2 152) (r2 151) 6 := a6 6 (by omega) (by omega) rfl (by omega) trivial (by omega) (by omega)
      have c4 : rp 4 = r2 103 := hrp 4 (by omega) (by omega)
      have c5 : rp 6 = r2 105 := hrp 6 (by omega) (by omega)
      have c7 : r3 105 = rq 6 := w2 6 (by omega) (by omega)
      have c8 : r3 153 = r2 153 := w1 153 rfl
      have hxy : ai_vx r3 (153, 0) = ai_vx r3 (105, 0) := by
        show r3 153 + 0 = r3 105 + 0
        rw [c8, c7, c6]
        rcases hBd with ⟨q1, q2⟩ | ⟨q1, q2⟩
        · rw [← c4, ← c5] at q1
          rw [of_b_bad q1, c5, q2]
        · rw [← c4, ← c5] at q1
          rw [of_b_good q1, q2]
      have hR4 : ai_Rel D tyc A s sa ws2 7 r3 ad' lx_L [.inl (151, 0)] (lx_G16 v) t.heap locs1 ls' [.int i] := lx_rc (lx_cell hR4y (q := 84) (by omega) (by omega) ly_rcell (fun e g => ly_rgC hxy (by show 105 < (lx_G v 3).1.1; rw [hN2]; omega) g))
      have p1 : r3 1 = r 1 := (w1 1 rfl).trans q1
      have p2 : r3 103 = (k : Int) := by
        have h4 : r3 (4 + 99) = rq 4 := w2 4 (by omega) (by omega)
        have h6 : rq 4 = rp 4 := (a6 4 (by omega) (by omega) rfl (by omega) trivial (by omega) (by omega)).trans (of_b_ne (by omega))
        have h7 : rp 4 = r2 (4 + 99) := hrp 4 (by omega) (by omega)
        exact h4.trans (h6.trans (h7.trans q2))
      unfold lx_ofC at hC
      split at hC
      · rename_i fs2 hrun2
        have hRc2 := hg_cap_ok hR4 (t := 1) (b := (0, 5110)) (by show 1 < (lx_G v 3).1.1; rw [hN2]; omega) ⟨by rw [p1]; exact hi.1, by rw [p1]; exact h5⟩
        rw [rb1, rb2]
        refine lx_ok (k0 := 60) (T := []) (G := hg_cap (lx_G16 v) 1 (0, 5110)) F hl trivial (by omega) (by omega) V2.pw hsa 16 [] false 734 lx_L _ fs2 r3 ad' t.heap locs1 ls' [.int i] hrun2 hRc2 (by show 1 < (lx_G v 3).1.1; rw [hN2]; omega) (by show 0 < 336; omega) (by rw [p1]; exact hi) had' (fun q hq => by cases hq) (fun q hq => by cases hq) (fun f9 hf9 r9' ad9 y1 y2 y3 y4 H9 locs9 ls9 st9 hR9' => ?_)
        have y1 : ai_ext (lx_G v 3).1.1 r3 r9' := y1
        rw [hN2] at y1
        obtain ⟨n1, n2, n3, r9, hR9, u9⟩ := lx_to_ok (List.all_eq_true.mp hC f9 hf9) hR9'
        rw [n1]
        have s1 : r9 1 = r9' 1 + 10 := u9 _ List.mem_cons_self
        have s2 : r9 103 = r9' 103 + 0 := u9 _ (List.mem_cons_of_mem _ List.mem_cons_self)
        exact kn v k ws2 r9 ad9 H9 locs9 ls9 st9 _ _ hvk hk4 n2 n3 V2 hR9 (by rw [s1, y1 1 (by omega), p1]) (by rw [s2, y1 103 (by omega), p2, Int.add_zero]) ((y2 0 (by show 0 < 336; omega)).trans had')
      · cases hC
  · cases hA
end LO
