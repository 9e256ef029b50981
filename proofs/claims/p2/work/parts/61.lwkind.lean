/-! THE LAW: from a call's kind to the head again -/
noncomputable def cl_V (tyc : Nat → ClassId) (ws : va_W) : Prop := ∃ f1 f2 f3 g, hg_ia tyc ws 286 5 f1 ∧ hg_ia tyc ws 288 40 f2 ∧ hg_ia tyc ws 289 40 f3 ∧ hg_ia tyc ws 290 2000 g ∧ pw_ok f1 f2 f3 g
theorem cl_V.pw {tyc : Nat → ClassId} {ws : va_W} (h : cl_V tyc ws) : ai_Pw tyc ws := fun _ => by
  obtain ⟨f1, f2, f3, g, h⟩ := h
  exact ⟨f1, f2, f3, g, h⟩
theorem lx_N (v j : Nat) : (lx_G v j).1.1 = lx_nn j + 1 := (lx_El_eq v j).2.2
theorem lx_f4 : (match ai_cell lx_h 264 with
  | some (.inl (_, fs)) => decide (fs[4]? = some (.inl (109, 0)))
  | _ => false) = true := by decide +kernel
theorem lx_fs : ∃ ci fs, ai_cell lx_h 264 = some (.inl (ci, fs)) ∧ fs[4]? = some (.inl (109, 0)) := by
  have h := lx_f4
  split at h
  · rename_i ci fs ec
    exact ⟨ci, fs, ec, of_decide_eq_true h⟩
  · cases h
theorem lx_gF_set {r : Nat → Int} {ad : Nat → Nat} {N n : Nat} {x y : ai_X} (hy : y.1 < N) (hv : ai_vx r y = ai_vx r x) : ∀ {i : Nat} {fs : List ai_V} {vs : List Value}, fs[i]? = some (.inl x) → ai_gF r ad N n fs vs → ai_gF r ad N n (fs.set i (.inl y)) vs
  | _, [], _, h, _ => by cases h
  | _, _ :: _, [], _, g => g.elim
  | 0, f :: fs, v :: vs, h, g => by
    have h : some f = some (.inl x) := h
    cases h
    obtain ⟨⟨g1, z, g2, g3⟩, g4⟩ := g
    exact ⟨⟨hy, z, g2, g3.trans hv.symm⟩, g4⟩
  | i + 1, f :: fs, v :: vs, h, g => ⟨g.1, lx_gF_set hy hv (i := i) h g.2⟩
section LK
variable {p : Program} {l : Launch} {e : Env} {R : Room} {s : State} {m : MethodId} {args : Array Value} {below : List Frame} {meth : Method} {c : Code} {Q : State → Prop}
variable {D : va_G} {tyc : Nat → ClassId} {A : Nat → Prop} {sa : ai_B} {ws : va_W} {b Ln z0 w v k : Nat} {xs : Nat → Int32}
variable {r : Nat → Int} {ad : Nat → Nat} {H : Heap} {locs : List Loc} {ls : Array Slot} {st : List Value}
/-- what is wanted of a state at the head again -/
noncomputable def lx_Kn (p : Program) (l : Launch) (e : Env) (R : Room) (s : State) (m : MethodId) (args : Array Value) (below : List Frame) (meth : Method) (c : Code) (Q : State → Prop) (D : va_G) (tyc : Nat → ClassId) (A : Nat → Prop) (sa : ai_B) (b : Nat) (i : Int) : Prop :=
  ∀ (v k : Nat) (ws : va_W) (r : Nat → Int) (ad : Nat → Nat) (H : Heap) (locs : List Loc) (ls : Array Slot) (st : List Value) (cs sl : Nat), v ≤ k → k ≤ 4 → cs ≤ 1 → sl ≤ 6 → cl_V tyc ws → ai_Rel D tyc A s sa ws 7 r ad lx_L [] (lx_G v 0) H locs ls st → r 1 = i + 10 → r 109 = (k : Int) → ad 0 = b → W p l e R s m args below meth c H locs cs sl Q (F0 m 23 ls st)
set_option maxHeartbeats 1000000 in
theorem lx_kind (hK : lx_K w v) (F : lx_Fr p R s m args meth c D tyc A sa) (hl : l.stackTraces = false) (hRf : 73 ≤ R.frames) (hRl : 4560 ≤ R.locals) (hsa : (z0, b, Ln, xs) ∈ sa.2) (hV : cl_V tyc ws) (hvk : v ≤ k) (hk4 : k ≤ 4) (hR : ai_Rel D tyc A s sa ws 7 r ad lx_L [.inl (0, .ofNat w)] (lx_G v 1) H locs ls st) (hi : 0 ≤ r 1 ∧ r 1 + 10 ≤ (Ln : Int)) (h5 : r 1 ≤ 5110) (h110 : r 109 = (k : Int)) (had : ad 0 = b)
    (kn : lx_Kn p l e R s m args below meth c Q D tyc A sa b (r 1)) : W p l e R s m args below meth c H locs 0 0 Q (F0 m 40 ls st) := by
  obtain ⟨T, hT, hck⟩ := hK
  unfold lx_ck at hck
  split at hck
  · rename_i fs hrun
    have hN : (lx_G v 1).1.1 = 158 := lx_N v 1
    have hRc := hg_cap_ok hR (t := 1) (b := (0, 5110)) (by rw [hN]; omega) ⟨hi.1, h5⟩
    refine lx_ok (k0 := 60) (G := hg_cap (lx_G v 1) 1 (0, 5110)) F hl hT (by omega) (by omega) hV.pw hsa 16 [] false 40 lx_L _ fs r ad H locs ls st hrun hRc (by show 1 < (lx_G v 1).1.1; rw [hN]; omega) (by show 0 < 336; omega) hi had (fun q hq => by cases hq) (fun q hq => by cases hq) (fun f hf r' ad' x1 x2 x3 x4 H' locs' ls' st' hR' => ?_)
    have x1 : ai_ext (lx_G v 1).1.1 r r' := x1
    rw [hN] at x1
    obtain ⟨e1, e2, e3, r2, hR2, u⟩ := lx_to_ok (List.all_eq_true.mp hck f hf) hR'
    rw [e1]
    have q1 : r2 1 = r' 1 + 10 := u _ List.mem_cons_self
    have q2 : r2 109 = r' 109 + 0 := u _ (List.mem_cons_of_mem _ List.mem_cons_self)
    exact kn v k ws r2 ad' H' locs' ls' st' _ _ hvk hk4 e2 e3 hV hR2 (by rw [q1, x1 1 (by omega)]) (by rw [q2, x1 109 (by omega), h110, Int.add_zero]) ((x2 0 (by show 0 < 336; omega)).trans had)
  · cases hck
set_option maxHeartbeats 1000000 in
theorem lx_mill (hK : lx_MK k v) (F : lx_Fr p R s m args meth c D tyc A sa) (hl : l.stackTraces = false) (hRf : 73 ≤ R.frames) (hRl : 4560 ≤ R.locals) (hsa : (z0, b, Ln, xs) ∈ sa.2) (hV : cl_V tyc ws) (hvk : v ≤ k) (hk4 : k ≤ 4) (hR : ai_Rel D tyc A s sa ws 7 r ad lx_L [.inl (0, .ofNat 2)] (lx_G v 1) H locs ls st) (hi : 0 ≤ r 1 ∧ r 1 + 10 ≤ (Ln : Int)) (h5 : r 1 ≤ 5110) (h110 : r 109 = (k : Int)) (had : ad 0 = b)
    (kn : lx_Kn p l e R s m args below meth c Q D tyc A sa b (r 1)) : W p l e R s m args below meth c H locs 0 0 Q (F0 m 40 ls st) := by
  obtain ⟨T, hT, hck⟩ := hK
  unfold lx_mk at hck
  split at hck
  · rename_i fs hrun
    have hN : (lx_G v 1).1.1 = 158 := lx_N v 1
    obtain ⟨ci, fs4, ec, e4⟩ := lx_fs
    have hE := hR.env
    have hz : ai_vx r (0, .ofNat k) = ai_vx r (109, 0) := by
      show r 0 + (k : Int) = r 109 + 0
      rw [hE.1, h110]
      omega
    have hRk := lx_cell (c' := .inl (ci, fs4.set 4 (.inl (0, .ofNat k)))) hR (by omega) (by omega) (show ai_cell (lx_G v 1).2.1 264 = some (.inl (ci, fs4)) from ec) (fun e he => by
      obtain ⟨vs, h1, h2⟩ := he
      exact ⟨vs, h1, lx_gF_set (by show 0 < (lx_G v 1).1.1; rw [hN]; omega) hz e4 h2⟩)
    have eh : lx_hm k = ((lx_G v 1).2.1.1, ai_tset 9 (lx_G v 1).2.1.2 264 (some (.inl (ci, fs4.set 4 (.inl (0, .ofNat k)))))) := by
      unfold lx_hm
      rw [ec]
      rfl
    have hRk : ai_Rel D tyc A s sa ws 7 r ad lx_L [.inl (0, .ofNat 2)] (lx_El v 1, lx_hm k, 0, 0) H locs ls st := by
      rw [eh]
      exact hRk
    have hRc := hg_cap_ok hRk (t := 1) (b := (0, 5110)) (by show 1 < (lx_G v 1).1.1; rw [hN]; omega) ⟨hi.1, h5⟩
    refine lx_ok (k0 := 60) (G := hg_cap (lx_El v 1, lx_hm k, 0, 0) 1 (0, 5110)) F hl hT (by omega) (by omega) hV.pw hsa 16 [] false 40 lx_L _ fs r ad H locs ls st hrun hRc (by show 1 < (lx_G v 1).1.1; rw [hN]; omega) (by show 0 < 336; omega) hi had (fun q hq => by cases hq) (fun q hq => by cases hq) (fun f hf r' ad' x1 x2 x3 x4 H' locs' ls' st' hR' => ?_)
    have x1 : ai_ext (lx_G v 1).1.1 r r' := x1
    rw [hN] at x1
    have hto := List.all_eq_true.mp hck f hf
    have hr0 : r' 0 = 0 := hR'.env.1
    have had' : ad' 0 = b := (x2 0 (by show 0 < 336; omega)).trans had
    unfold lx_mto at hto
    split at hto
    · cases hto
    · rename_i G' esrt
      have hRs : ai_Rel D tyc A s sa ws 7 r' ad' f.2.1 f.2.2.1 G' H' locs' ls' st' := by
        unfold lx_srt at esrt
        split at esrt
        · rename_i G1 es1
          exact lx_s1_ok (by omega) (by omega) esrt (lx_s1_ok (by omega) (by omega) es1 hR')
        · cases esrt
      have ecnt : G'.2.2 = f.2.2.2.2.2 := by
        unfold lx_srt at esrt
        split at esrt
        · rename_i G1 es1
          have z : ∀ {q : Nat} {Ga Gb : ai_G}, lx_s1 q Ga = some Gb → Gb.2.2 = Ga.2.2 := fun {q Ga Gb} h => by
            unfold lx_s1 at h
            split at h
            · split at h
              · split at h
                · cases h
                  rfl
                · cases h
              · cases h
            · cases h
          exact (z esrt).trans (z es1)
        · cases esrt
      have fin : ∀ v2 k2, v2 ≤ k2 → k2 ≤ 4 → lx_to v2 0 [] 23 [(1, (1, 10)), (109, (0, .ofNat k2))] (f.1, f.2.1, f.2.2.1, G') = true → W p l e R s m args below meth c H' locs' f.2.2.2.2.2.1 f.2.2.2.2.2.2 Q (F0 m f.1 ls' st') := fun v2 k2 a1 a2 a3 => by
        obtain ⟨e1, e2, e3, r2, hR2, u⟩ := lx_to_ok a3 hRs
        have e1 : f.1 = 23 := e1
        have e2 : G'.2.2.1 ≤ 1 := e2
        have e3 : G'.2.2.2 ≤ 6 := e3
        rw [ecnt] at e2 e3
        rw [e1]
        have q1 : r2 1 = r' 1 + 10 := u _ List.mem_cons_self
        have q2 : r2 109 = r' 0 + (k2 : Int) := u _ (List.mem_cons_of_mem _ List.mem_cons_self)
        exact kn v2 k2 ws r2 ad' H' locs' ls' st' _ _ a1 a2 e2 e3 hV hR2 (by rw [q1, x1 1 (by omega)]) (by rw [q2, hr0]; exact Int.zero_add _) had'
      rw [Bool.or_eq_true] at hto
      rcases hto with hto | hto
      · exact fin v k hvk hk4 hto
      · rw [Bool.and_eq_true, Bool.or_eq_true] at hto
        have hk1 := Nat.le_of_ble_eq_true hto.1
        rcases hto.2 with hto | hto
        · exact fin v (k + 1) (by omega) hk1 hto
        · exact fin (k + 1) (k + 1) (Nat.le_refl _) hk1 hto
  · cases hck
end LK
