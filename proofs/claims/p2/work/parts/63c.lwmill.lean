/-! THE LAW: mill, with as many reads as it has (18) -/
noncomputable def lx_mq (T : List (Nat × us_C)) (k v : Nat) : Bool := match lx_run T [23] 24 [] false 40 lx_L [.inl (0, .ofNat 2)] (hg_cap (lx_El v 1, lx_hm k, 0, 0) 1 (0, 5110)) with
  | some fs => fs.all (lx_mto k v)
  | none => false
noncomputable def lx_MQ (k v : Nat) : Prop := ∃ T, lt_all 60 T ∧ lx_mq T k v = true
section LK
variable {p : Program} {l : Launch} {e : Env} {R : Room} {s : State} {m : MethodId} {args : Array Value} {below : List Frame} {meth : Method} {c : Code} {Q : State → Prop}
variable {D : va_G} {tyc : Nat → ClassId} {A : Nat → Prop} {sa : ai_B} {ws : va_W} {b Ln z0 w v k : Nat} {xs : Nat → Int32}
variable {r : Nat → Int} {ad : Nat → Nat} {H : Heap} {locs : List Loc} {ls : Array Slot} {st : List Value}
set_option maxHeartbeats 1000000 in
theorem lx_milq (hK : lx_MQ k v) (F : lx_Fr p R s m args meth c D tyc A sa) (hl : l.stackTraces = false) (hRf : 73 ≤ R.frames) (hRl : 4560 ≤ R.locals) (hsa : (z0, b, Ln, xs) ∈ sa.2) (hV : cl_V tyc ws) (hvk : v ≤ k) (hk4 : k ≤ 4) (hR : ai_Rel D tyc A s sa ws 7 r ad lx_L [.inl (0, .ofNat 2)] (lx_G v 1) H locs ls st) (hi : 0 ≤ r 1 ∧ r 1 + 10 ≤ (Ln : Int)) (h5 : r 1 ≤ 5110) (h110 : r 109 = (k : Int)) (had : ad 0 = b)
    (kn : lx_Kn p l e R s m args below meth c Q D tyc A sa b (r 1)) : W p l e R s m args below meth c H locs 0 0 Q (F0 m 40 ls st) := by
  obtain ⟨T, hT, hck⟩ := hK
  unfold lx_mq at hck
  split at hck
  · rename_i fs hrun
    have hN : (lx_G v 1).1.1 = 158 := lx_N v 1
    obtain ⟨ci, fs4, ec, e4⟩ := lx_fs
    have hE := hR.env
    have hz : ai_vx r (0, .ofNat k) = ai_vx r (109, 0) := by
      show r 0 + (k : Int) = r 109 + 0
      rw [hE.1, h110]
      omega
    have hRk := lx_cell (c' := .inl (ci, fs4.set 4 (.inl (0, .ofNat k)))) hR (by omega) (by omega) (show ai_cell (lx_G v 1).2.1 264 = some (.inl (ci, fs4)) from ec) (fun e he => by
      obtain ⟨vs, h1, h2⟩ := he
      exact ⟨vs, h1, lx_gF_set (by show 0 < (lx_G v 1).1.1; rw [hN]; omega) hz e4 h2⟩)
    have eh : lx_hm k = ((lx_G v 1).2.1.1, ai_tset 9 (lx_G v 1).2.1.2 264 (some (.inl (ci, fs4.set 4 (.inl (0, .ofNat k)))))) := by
      unfold lx_hm
      rw [ec]
      rfl
    have hRk : ai_Rel D tyc A s sa ws 7 r ad lx_L [.inl (0, .ofNat 2)] (lx_El v 1, lx_hm k, 0, 0) H locs ls st := by
      rw [eh]
      exact hRk
    have hRc := hg_cap_ok hRk (t := 1) (b := (0, 5110)) (by show 1 < (lx_G v 1).1.1; rw [hN]; omega) ⟨hi.1, h5⟩
    refine lx_ok (k0 := 60) (G := hg_cap (lx_El v 1, lx_hm k, 0, 0) 1 (0, 5110)) F hl hT (by omega) (by omega) hV.pw hsa 24 [] false 40 lx_L _ fs r ad H locs ls st hrun hRc (by show 1 < (lx_G v 1).1.1; rw [hN]; omega) (by show 0 < 336; omega) hi had (fun q hq => by cases hq) (fun q hq => by cases hq) (fun f hf r' ad' x1 x2 x3 x4 H' locs' ls' st' hR' => ?_)
    have x1 : ai_ext (lx_G v 1).1.1 r r' := x1
    rw [hN] at x1
    have hto := List.all_eq_true.mp hck f hf
    have hr0 : r' 0 = 0 := hR'.env.1
    have had' : ad' 0 = b := (x2 0 (by show 0 < 336; omega)).trans had
    unfold lx_mto at hto
    split at hto
    · cases hto
    · rename_i G' esrt
      have hRs : ai_Rel D tyc A s sa ws 7 r' ad' f.2.1 f.2.2.1 G' H' locs' ls' st' := by
        unfold lx_srt at esrt
        split at esrt
        · rename_i G1 es1
          exact lx_s1_ok (by omega) (by omega) esrt (lx_s1_ok (by omega) (by omega) es1 hR')
        · cases esrt
      have ecnt : G'.2.2 = f.2.2.2.2.2 := by
        unfold lx_srt at esrt
        split at esrt
        · rename_i G1 es1
          have z : ∀ {q : Nat} {Ga Gb : ai_G}, lx_s1 q Ga = some Gb → Gb.2.2 = Ga.2.2 := fun {q Ga Gb} h => by
            unfold lx_s1 at h
            split at h
            · split at h
              · split at h
                · cases h
                  rfl
                · cases h
              · cases h
            · cases h
          exact (z esrt).trans (z es1)
        · cases esrt
      have fin : ∀ v2 k2, v2 ≤ k2 → k2 ≤ 4 → lx_to v2 0 [] 23 [(1, (1, 10)), (109, (0, .ofNat k2))] (f.1, f.2.1, f.2.2.1, G') = true → W p l e R s m args below meth c H' locs' f.2.2.2.2.2.1 f.2.2.2.2.2.2 Q (F0 m f.1 ls' st') := fun v2 k2 a1 a2 a3 => by
        obtain ⟨e1, e2, e3, r2, hR2, u⟩ := lx_to_ok a3 hRs
        have e1 : f.1 = 23 := e1
        have e2 : G'.2.2.1 ≤ 1 := e2
        have e3 : G'.2.2.2 ≤ 6 := e3
        rw [ecnt] at e2 e3
        rw [e1]
        have q1 : r2 1 = r' 1 + 10 := u _ List.mem_cons_self
        have q2 : r2 109 = r' 0 + (k2 : Int) := u _ (List.mem_cons_of_mem _ List.mem_cons_self)
        exact kn v2 k2 ws r2 ad' H' locs' ls' st' _ _ a1 a2 e2 e3 hV hR2 (by rw [q1, x1 1 (by omega)]) (by rw [q2, hr0]; exact Int.zero_add _) had'
      rw [Bool.or_eq_true] at hto
      rcases hto with hto | hto
      · exact fin v k hvk hk4 hto
      · rw [Bool.and_eq_true, Bool.or_eq_true] at hto
        have hk1 := Nat.le_of_ble_eq_true hto.1
        rcases hto.2 with hto | hto
        · exact fin v (k + 1) (by omega) hk1 hto
        · exact fin (k + 1) (k + 1) (Nat.le_refl _) hk1 hto
  · cases hck
end LK
/-! THE LAW: mill (printed by lawgen.py) -/
noncomputable def lx_Tm0_0 : List (Nat × us_C) := [(135, cn_x_mill), (177, cn_m_milln0_0)]
theorem lx_Tm0_0_ok : lt_all 60 lx_Tm0_0 := ⟨cp_x_mill.mono (by decide), cp_m_milln0_0.mono (by decide), trivial⟩
theorem lx_m0_0 : lx_mq lx_Tm0_0 0 0 = true := by decide +kernel
noncomputable def lx_Tm1_0 : List (Nat × us_C) := [(135, cn_x_mill), (177, cn_m_milln1_0)]
theorem lx_Tm1_0_ok : lt_all 60 lx_Tm1_0 := ⟨cp_x_mill.mono (by decide), cp_m_milln1_0.mono (by decide), trivial⟩
theorem lx_m1_0 : lx_mq lx_Tm1_0 1 0 = true := by decide +kernel
noncomputable def lx_Tm1_1 : List (Nat × us_C) := [(135, cn_x_mill), (177, cn_m_milln1_1)]
theorem lx_Tm1_1_ok : lt_all 60 lx_Tm1_1 := ⟨cp_x_mill.mono (by decide), cp_m_milln1_1.mono (by decide), trivial⟩
theorem lx_m1_1 : lx_mq lx_Tm1_1 1 1 = true := by decide +kernel
noncomputable def lx_Tm2_0 : List (Nat × us_C) := [(135, cn_x_mill), (177, cn_m_milln2_0)]
theorem lx_Tm2_0_ok : lt_all 60 lx_Tm2_0 := ⟨cp_x_mill.mono (by decide), cp_m_milln2_0.mono (by decide), trivial⟩
theorem lx_m2_0 : lx_mq lx_Tm2_0 2 0 = true := by decide +kernel
noncomputable def lx_Tm2_1 : List (Nat × us_C) := [(135, cn_x_mill), (177, cn_m_milln2_1)]
theorem lx_Tm2_1_ok : lt_all 60 lx_Tm2_1 := ⟨cp_x_mill.mono (by decide), cp_m_milln2_1.mono (by decide), trivial⟩
theorem lx_m2_1 : lx_mq lx_Tm2_1 2 1 = true := by decide +kernel
noncomputable def lx_Tm2_2 : List (Nat × us_C) := [(135, cn_x_mill), (177, cn_m_milln2_2)]
theorem lx_Tm2_2_ok : lt_all 60 lx_Tm2_2 := ⟨cp_x_mill.mono (by decide), cp_m_milln2_2.mono (by decide), trivial⟩
theorem lx_m2_2 : lx_mq lx_Tm2_2 2 2 = true := by decide +kernel
noncomputable def lx_Tm3_0 : List (Nat × us_C) := [(135, cn_x_mill), (177, cn_m_milln3_0)]
theorem lx_Tm3_0_ok : lt_all 60 lx_Tm3_0 := ⟨cp_x_mill.mono (by decide), cp_m_milln3_0.mono (by decide), trivial⟩
theorem lx_m3_0 : lx_mq lx_Tm3_0 3 0 = true := by decide +kernel
noncomputable def lx_Tm3_1 : List (Nat × us_C) := [(135, cn_x_mill), (177, cn_m_milln3_1)]
theorem lx_Tm3_1_ok : lt_all 60 lx_Tm3_1 := ⟨cp_x_mill.mono (by decide), cp_m_milln3_1.mono (by decide), trivial⟩
theorem lx_m3_1 : lx_mq lx_Tm3_1 3 1 = true := by decide +kernel
noncomputable def lx_Tm3_2 : List (Nat × us_C) := [(135, cn_x_mill), (177, cn_m_milln3_2)]
theorem lx_Tm3_2_ok : lt_all 60 lx_Tm3_2 := ⟨cp_x_mill.mono (by decide), cp_m_milln3_2.mono (by decide), trivial⟩
theorem lx_m3_2 : lx_mq lx_Tm3_2 3 2 = true := by decide +kernel
noncomputable def lx_Tm3_3 : List (Nat × us_C) := [(135, cn_x_mill), (177, cn_m_milln3_3)]
theorem lx_Tm3_3_ok : lt_all 60 lx_Tm3_3 := ⟨cp_x_mill.mono (by decide), cp_m_milln3_3.mono (by decide), trivial⟩
theorem lx_m3_3 : lx_mq lx_Tm3_3 3 3 = true := by decide +kernel
noncomputable def lx_Tm4_0 : List (Nat × us_C) := [(135, cn_x_mill), (177, cn_m_milln4_0)]
theorem lx_Tm4_0_ok : lt_all 60 lx_Tm4_0 := ⟨cp_x_mill.mono (by decide), cp_m_milln4_0.mono (by decide), trivial⟩
theorem lx_m4_0 : lx_mq lx_Tm4_0 4 0 = true := by decide +kernel
noncomputable def lx_Tm4_1 : List (Nat × us_C) := [(135, cn_x_mill), (177, cn_m_milln4_1)]
theorem lx_Tm4_1_ok : lt_all 60 lx_Tm4_1 := ⟨cp_x_mill.mono (by decide), cp_m_milln4_1.mono (by decide), trivial⟩
theorem lx_m4_1 : lx_mq lx_Tm4_1 4 1 = true := by decide +kernel
noncomputable def lx_Tm4_2 : List (Nat × us_C) := [(135, cn_x_mill), (177, cn_m_milln4_2)]
theorem lx_Tm4_2_ok : lt_all 60 lx_Tm4_2 := ⟨cp_x_mill.mono (by decide), cp_m_milln4_2.mono (by decide), trivial⟩
theorem lx_m4_2 : lx_mq lx_Tm4_2 4 2 = true := by decide +kernel
noncomputable def lx_Tm4_3 : List (Nat × us_C) := [(135, cn_x_mill), (177, cn_m_milln4_3)]
theorem lx_Tm4_3_ok : lt_all 60 lx_Tm4_3 := ⟨cp_x_mill.mono (by decide), cp_m_milln4_3.mono (by decide), trivial⟩
theorem lx_m4_3 : lx_mq lx_Tm4_3 4 3 = true := by decide +kernel
noncomputable def lx_Tm4_4 : List (Nat × us_C) := [(135, cn_x_mill), (177, cn_m_milln4_4)]
theorem lx_Tm4_4_ok : lt_all 60 lx_Tm4_4 := ⟨cp_x_mill.mono (by decide), cp_m_milln4_4.mono (by decide), trivial⟩
theorem lx_m4_4 : lx_mq lx_Tm4_4 4 4 = true := by decide +kernel
theorem lx_mills : ∀ k v, v ≤ k → k ≤ 4 → lx_MQ k v := fun k v h1 h2 => match k, v with
  | 0, 0 => ⟨_, lx_Tm0_0_ok, lx_m0_0⟩
  | 1, 0 => ⟨_, lx_Tm1_0_ok, lx_m1_0⟩
  | 1, 1 => ⟨_, lx_Tm1_1_ok, lx_m1_1⟩
  | 2, 0 => ⟨_, lx_Tm2_0_ok, lx_m2_0⟩
  | 2, 1 => ⟨_, lx_Tm2_1_ok, lx_m2_1⟩
  | 2, 2 => ⟨_, lx_Tm2_2_ok, lx_m2_2⟩
  | 3, 0 => ⟨_, lx_Tm3_0_ok, lx_m3_0⟩
  | 3, 1 => ⟨_, lx_Tm3_1_ok, lx_m3_1⟩
  | 3, 2 => ⟨_, lx_Tm3_2_ok, lx_m3_2⟩
  | 3, 3 => ⟨_, lx_Tm3_3_ok, lx_m3_3⟩
  | 4, 0 => ⟨_, lx_Tm4_0_ok, lx_m4_0⟩
  | 4, 1 => ⟨_, lx_Tm4_1_ok, lx_m4_1⟩
  | 4, 2 => ⟨_, lx_Tm4_2_ok, lx_m4_2⟩
  | 4, 3 => ⟨_, lx_Tm4_3_ok, lx_m4_3⟩
  | 4, 4 => ⟨_, lx_Tm4_4_ok, lx_m4_4⟩
  | 0, n + 1 => absurd h1 (by omega)
  | 1, n + 2 => absurd h1 (by omega)
  | 2, n + 3 => absurd h1 (by omega)
  | 3, n + 4 => absurd h1 (by omega)
  | 4, n + 5 => absurd h1 (by omega)
  | n + 5, _ => absurd h2 (by omega)
