/-! THE LAW: offer -/
noncomputable def lx_S8 : List ai_V := [.inl (392, 0), .inl (393, 0), .inr (.inr (some (some 264)))]
noncomputable def lx_T8 : List (Nat × us_C) := [(141, cn_x_offer)]
theorem lx_T8_ok : lt_all 92 lx_T8 := ⟨cp_x_offer.mono (by decide), trivial⟩
noncomputable def lx_oA : List (Nat × ai_X) := (1, (1, 0)) :: (75, (75, 0)) :: lx_jo
theorem lx_Jun : ∀ t ∈ lx_Jt, lx_un t = true := List.all_eq_true.mp (by decide +kernel : lx_Jt.all lx_un = true)
noncomputable def lx_ofA (v : Nat) : Bool := match lx_run lx_T8 [731] 16 [] false 40 lx_L [.inl (0, .ofNat 8)] (hg_cap (lx_G v 1) 1 (0, 5110)) with
  | some fs => fs.all (lx_to v 2 lx_S8 731 lx_oA)
  | none => false
noncomputable def lx_G16 (v : Nat) : ai_G := (lx_El v 2, lx_h, 1, 6)
noncomputable def lx_ofC (v : Nat) : Bool := match lx_run [] [23] 16 [] false 734 lx_L [.inl (392, 0)] (hg_cap (lx_G16 v) 1 (0, 5110)) with
  | some fs => fs.all (lx_to v 0 [] 23 lx_o)
  | none => false
theorem lx_a0 : (lx_ofA 0 && lx_ofC 0) = true := by decide +kernel
theorem lx_a1 : (lx_ofA 1 && lx_ofC 1) = true := by decide +kernel
theorem lx_a2 : (lx_ofA 2 && lx_ofC 2) = true := by decide +kernel
theorem lx_a3 : (lx_ofA 3 && lx_ofC 3) = true := by decide +kernel
theorem lx_a4 : (lx_ofA 4 && lx_ofC 4) = true := by decide +kernel
theorem lx_av : ∀ v, v < 5 → (lx_ofA v && lx_ofC v) = true := fun v hv => match v, hv with
  | 0, _ => lx_a0
  | 1, _ => lx_a1
  | 2, _ => lx_a2
  | 3, _ => lx_a3
  | 4, _ => lx_a4
  | n + 5, h => absurd h (by omega)
noncomputable def lx_vck : Bool := match lx_code 731 with
  | some (i, len, a, b) => Nat.beq (fn_knd i).1 3 && (Nat.beq a 203 && (Nat.beq len 3 && (match ai_vcall 203 (Nat.mod b 64) (Nat.div b 64) 734 lx_S8 lx_h with
    | some (.inr (.inl (m', aa', S2, p'))) => Nat.beq m' 203 && (decide (aa' = [.inr (.inr (some (some 264))), .inl (393, 0), .inl (392, 0)]) && (decide (S2 = []) && Nat.beq p' 734))
    | _ => false)))
  | none => false
theorem lx_vk : lx_vck = true := by decide +kernel
theorem lx_vk' : ∃ idx b, lx_code 731 = some (.invokevirtual idx, 3, 203, b) ∧ ai_vcall 203 (Nat.mod b 64) (Nat.div b 64) 734 lx_S8 lx_h = some (.inr (.inl (203, [.inr (.inr (some (some 264))), .inl (393, 0), .inl (392, 0)], [], 734))) := by
  have h := lx_vk
  unfold lx_vck at h
  split at h
  · rename_i i len a b ec
    simp only [Bool.and_eq_true] at h
    obtain ⟨h1, h2, h3, h4⟩ := h
    obtain ⟨idx, hi⟩ := fn_knd3 (Nat.eq_of_beq_eq_true h1)
    have h2 := Nat.eq_of_beq_eq_true h2
    have h3 := Nat.eq_of_beq_eq_true h3
    subst hi h2 h3
    split at h4
    · rename_i m' aa' S2 p' ev
      simp only [Bool.and_eq_true, decide_eq_true_eq] at h4
      obtain ⟨k1, k2, k3, k4⟩ := h4
      have k1 := Nat.eq_of_beq_eq_true k1
      have k4 := Nat.eq_of_beq_eq_true k4
      subst k1 k2 k3 k4
      exact ⟨idx, b, ec, ev⟩
    · cases h4
  · cases h
theorem lx_Luv : lx_L.all lx_uv = true := by decide +kernel
section LO
variable {p : Program} {l : Launch} {e : Env} {R : Room} {s : State} {m : MethodId} {args : Array Value} {below : List Frame} {meth : Method} {c : Code} {Q : State → Prop}
variable {D : va_G} {tyc : Nat → ClassId} {A : Nat → Prop} {sa : ai_B} {ws : va_W} {b Ln z0 v k : Nat} {xs : Nat → Int32}
variable {r : Nat → Int} {ad : Nat → Nat} {H : Heap} {locs : List Loc} {ls : Array Slot} {st : List Value}
set_option maxHeartbeats 2000000 in
theorem lx_offer (F : lx_Fr p R s m args meth c D tyc A sa) (hl : l.stackTraces = false) (hRf : 111 ≤ R.frames) (hRl : 8000 ≤ R.locals) (hsa : (z0, b, Ln, xs) ∈ sa.2) (hV : lx_V tyc ws r) (hvk : v ≤ k) (hk4 : k ≤ 4) (hR : ai_Rel D tyc A s sa ws 7 r ad lx_L [.inl (0, .ofNat 8)] (lx_G v 1) H locs ls st) (hi : 0 ≤ r 1 ∧ r 1 + 10 ≤ (Ln : Int)) (h5 : r 1 ≤ 5110) (h110 : r 75 = (k : Int)) (had : ad 0 = b)
    (kn : lx_Kn p l e R s m args below meth c Q D tyc A sa b (r 1)) : W p l e R s m args below meth c H locs 0 0 Q (F0 m 40 ls st) := by
  have hav := lx_av v (by omega)
  rw [Bool.and_eq_true] at hav
  obtain ⟨hA, hC⟩ := hav
  unfold lx_ofA at hA
  split at hA
  · rename_i fs hrun
    have hN : (lx_G v 1).1.1 = 393 := lx_N v 1
    have hN2 : (lx_G v 2).1.1 = 394 := lx_N v 2
    have hRc := hg_cap_ok hR (t := 1) (b := (0, 5110)) (by rw [hN]; omega) ⟨hi.1, h5⟩
    refine lx_ok (k0 := 92) (G := hg_cap (lx_G v 1) 1 (0, 5110)) F hl lx_T8_ok (by omega) (by omega) hV.1.pw hsa 16 [] false 40 lx_L _ fs r ad H locs ls st hrun hRc (by show 1 < (lx_G v 1).1.1; rw [hN]; omega) (by show 0 < 336; omega) hi had (fun q hq => by cases hq) (fun q hq => by cases hq) (fun f hf r' ad' x1 x2 x3 x4 H' locs' ls' st' hR' => ?_)
    have x1 : ai_ext (lx_G v 1).1.1 r r' := x1
    rw [hN] at x1
    obtain ⟨e1, e2, e3, r2, hR2, u⟩ := lx_to_ok (List.all_eq_true.mp hA f hf) hR'
    rw [e1]
    have J2 : lx_J r2 := lx_J_k hV.2 x1 (by decide +kernel) lx_j2 u
    have q1 : r2 1 = r 1 := by
      have : r2 1 = r' 1 + 0 := u _ List.mem_cons_self
      rw [this, x1 1 (by omega), Int.add_zero]
    have q2 : r2 75 = (k : Int) := by
      have : r2 75 = r' 75 + 0 := u _ (List.mem_cons_of_mem _ List.mem_cons_self)
      rw [this, x1 75 (by omega), h110, Int.add_zero]
    have had' : ad' 0 = b := (x2 0 (by show 0 < 336; omega)).trans had
    refine W.widen e2 e3 ?_
    have hR3 : ai_Rel D tyc A s sa ws 7 r2 ad' lx_L lx_S8 (lx_G16 v) H' locs' ls' st' := hR2
    obtain ⟨hWd, hS, hL, hSt⟩ := hR2.wd
    obtain ⟨wsF, rp, f1, f2, f3, g, fb, hCl, hZ, hB, hWp, hrp, back⟩ := lx_emb hWd hV.1
    obtain ⟨idx, bb, ec, hv⟩ := lx_vk'
    obtain ⟨d1, -, -, -, d5⟩ := ck_286.tab 731 _ _ _ _ ec
    have hpl := of_pl.1
    unfold ls_plain at hpl
    simp only [Bool.and_eq_true] at hpl
    obtain ⟨mok, -⟩ := ls_known hpl.1
    have hbud := F.2.2.2.2.2.2.2.1
    have hb1 : (1 : Nat) = R.cells := hbud.1
    have hb2 : (6 : Nat) = R.slots := hbud.2
    have rb1 : (lt_rm 89 203).cells = 0 := by
      show (ct_bud 203).1 = 0
      rw [of_pl.2.1]
    have rb2 : (lt_rm 89 203).slots = 0 := by
      show (ct_bud 203).2 = 0
      rw [of_pl.2.1]
    refine hg_callv0 (G := lx_G16 v) (mj := 203) (y := ct_mt 203) (rm := lt_rm 89 203) (pc := 731) (Qc := of_Q D tyc A sa wsF rp ad') F (fun w hw => (List.mem_filter.mp hw).2) (fun w hw => (List.mem_filter.mp hw).2) (d5 (by omega)) mok ⟨by show 89 + 0 + 8 + 1 ≤ R.frames; omega, by show 64 * (89 + 0) + 400 + 64 ≤ R.locals; omega⟩ d1 hv hR3 ⟨by rw [rb1, ← hb1]; exact Nat.le_refl _, by rw [rb2, ← hb2]; exact Nat.le_refl _⟩ (fun As gA _ => ?_) (fun a st0 t v1 rest locs1 he0 hq hrest hS1 => ?_)
    · obtain ⟨t1, rfl, z1, g1⟩ := gA.ref
      obtain ⟨vm, t2, rfl, z2, z3, g2⟩ := g1.int
      obtain ⟨vn, t3, rfl, z4, z5, g3⟩ := g2.int
      have : t3 = [] := by
        cases t3 with
        | nil => rfl
        | cons _ _ => exact g3.elim
      subst this
      exact pz_offer l D tyc A sa hl wsF f1 f2 f3 g fb rp ad' H' hCl hZ hB hWp vm vn
    · obtain ⟨i, ws', f1', f2', f3', g', fb', rq, ev, a1, a2, ⟨a3, a4⟩, a5, a6, a7⟩ := hq
      cases ev
      obtain ⟨ws2, r3, V2, W2, w1, w2, w3⟩ := back ws' rq t.heap f1' f2' f3' g' fb' i a1 a2 a3 a4 a5 a6
      have er : rest = [] := by
        cases rest with
        | nil => rfl
        | cons _ _ => exact hrest.elim
      subst er
      have hL3 : ai_gL r3 ad' (lx_G v 2).1.1 336 7 lx_L ls' := ⟨hL.1, hL.2.1, hL.2.2.1, fun j hj => by
        obtain ⟨z, b1, b2⟩ := hL.2.2.2 j hj
        exact ⟨z, b1, lx_ugV w1 (List.all_eq_true.mp lx_Luv _ (ai_lget_mem hj)) b2⟩⟩
      have hR4 : ai_Rel D tyc A s sa ws2 7 r3 ad' lx_L [.inl (392, 0)] (lx_G16 v) t.heap locs1 ls' [.int i] := W2.rel (hS1 a7) hL3 ⟨⟨by show 392 < (lx_G v 2).1.1; rw [hN2]; omega, i, rfl, by show i.toInt = r3 392 + 0; rw [w3, Int.add_zero]⟩, trivial⟩
      have p1 : r3 1 = r 1 := (w1 1 rfl).trans q1
      have p2 : r3 75 = (k : Int) := by
        have h4 : r3 (4 + 71) = rq 4 := w2 4 (by omega) (by omega)
        have h6 : rq 4 = rp 4 := a6 4 (by omega) (by omega) rfl (by omega) (by omega) (by omega) (by omega)
        have h7 : rp 4 = r2 (4 + 71) := hrp 4 (by omega) (by omega)
        exact h4.trans (h6.trans (h7.trans q2))
      unfold lx_ofC at hC
      split at hC
      · rename_i fs2 hrun2
        have hRc2 := hg_cap_ok hR4 (t := 1) (b := (0, 5110)) (by show 1 < (lx_G v 2).1.1; rw [hN2]; omega) ⟨by rw [p1]; exact hi.1, by rw [p1]; exact h5⟩
        rw [rb1, rb2]
        refine lx_ok (k0 := 60) (T := []) (G := hg_cap (lx_G16 v) 1 (0, 5110)) F hl trivial (by omega) (by omega) V2.pw hsa 16 [] false 734 lx_L _ fs2 r3 ad' t.heap locs1 ls' [.int i] hrun2 hRc2 (by show 1 < (lx_G v 2).1.1; rw [hN2]; omega) (by show 0 < 336; omega) (by rw [p1]; exact hi) had' (fun q hq => by cases hq) (fun q hq => by cases hq) (fun f9 hf9 r9' ad9 y1 y2 y3 y4 H9 locs9 ls9 st9 hR9' => ?_)
        have y1 : ai_ext (lx_G v 2).1.1 r3 r9' := y1
        rw [hN2] at y1
        obtain ⟨n1, n2, n3, r9, hR9, u9⟩ := lx_to_ok (List.all_eq_true.mp hC f9 hf9) hR9'
        rw [n1]
        have s1 : r9 1 = r9' 1 + 10 := u9 _ List.mem_cons_self
        have s2 : r9 75 = r9' 75 + 0 := u9 _ (List.mem_cons_of_mem _ List.mem_cons_self)
        exact kn v k ws2 r9 ad9 H9 locs9 ls9 st9 _ _ hvk hk4 n2 n3 ⟨V2, lx_J_k (lx_J_keep J2 (fun t ht => w1 t (lx_Jun t ht))) y1 (by decide +kernel) lx_j2 u9⟩ hR9 (by rw [s1, y1 1 (by omega), p1]) (by rw [s2, y1 75 (by omega), p2, Int.add_zero]) ((y2 0 (by show 0 < 336; omega)).trans had')
      · cases hC
  · cases hA
end LO
