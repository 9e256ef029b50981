/-! THE LAW: from a call's kind to the head again -/
/-- arrays left alone: the class's codes and tape, the reference's tape and offers -/
noncomputable def gw_l : List (Nat × Nat × Nat) := [(85, 200, 0), (86, 200, 0), (285, 200, 0), (286, 5, 0), (288, 40, 0), (289, 40, 0), (290, 2000, 0)]
noncomputable def gw_I (M : Nat → Nat → Int) : Prop := gz_pw M ∧ ∀ j, j < 200 → M 86 j = M 285 j ∧ 0 ≤ M 86 j ∧ M 86 j ≤ 255
theorem gw_I_c {M M' : Nat → Nat → Int} (h : gw_I M) (e : ∀ z ∈ gw_l, M' z.1 = M z.1) : gw_I M' := by
  have k : ∀ q n, (q, n, 0) ∈ gw_l → M' q = M q := fun q n h => e _ h
  have e1 := k 286 5 (by unfold gw_l; simp)
  have e2 := k 288 40 (by unfold gw_l; simp)
  have e3 := k 289 40 (by unfold gw_l; simp)
  have e4 := k 290 2000 (by unfold gw_l; simp)
  have e5 := k 86 200 (by unfold gw_l; simp)
  have e6 := k 285 200 (by unfold gw_l; simp)
  refine ⟨gz_pw_c h.1 (fun z x w => ?_), fun j hj => by rw [e5, e6]; exact h.2 j hj⟩
  rcases w with ⟨w, -⟩ | ⟨w | w, -⟩ | ⟨w, -⟩
  · rw [w, e1]
  · rw [w, e2]
  · rw [w, e3]
  · rw [w, e4]
noncomputable def cl_V (tyc : Nat → ClassId) (ws : va_W) : Prop := ∃ M, pt_M tyc gw_l ws M ∧ gw_I M
theorem cl_V.pw {tyc : Nat → ClassId} {ws : va_W} (h : cl_V tyc ws) : ai_Pw tyc ws := by
  obtain ⟨M, h1, h2⟩ := h
  exact pt_pw_of (by unfold gw_l; simp) (by unfold gw_l; simp) (by unfold gw_l; simp) (by unfold gw_l; simp) h1 h2.1
/-- the world's codes, and what is known of its numbers -/
noncomputable def lx_V (tyc : Nat → ClassId) (ws : va_W) (r : Nat → Int) : Prop := cl_V tyc ws ∧ lx_J r
theorem lx_N (v j : Nat) : (lx_G v j).1.1 = lx_nn j + 1 := (lx_El_eq v j).2.2
theorem lx_f4 : (match ai_cell lx_h 264 with
  | some (.inl (_, fs)) => decide (fs[4]? = some (.inl (102, 0)))
  | _ => false) = true := by decide +kernel
theorem lx_fs : ∃ ci fs, ai_cell lx_h 264 = some (.inl (ci, fs)) ∧ fs[4]? = some (.inl (102, 0)) := by
  have h := lx_f4
  split at h
  · rename_i ci fs ec
    exact ⟨ci, fs, ec, of_decide_eq_true h⟩
  · cases h
theorem lx_gF_set {r : Nat → Int} {ad : Nat → Nat} {N n : Nat} {x y : ai_X} (hy : y.1 < N) (hv : ai_vx r y = ai_vx r x) : ∀ {i : Nat} {fs : List ai_V} {vs : List Value}, fs[i]? = some (.inl x) → ai_gF r ad N n fs vs → ai_gF r ad N n (fs.set i (.inl y)) vs
  | _, [], _, h, _ => by cases h
  | _, _ :: _, [], _, g => g.elim
  | 0, f :: fs, v :: vs, h, g => by
    have h : some f = some (.inl x) := h
    cases h
    obtain ⟨⟨g1, z, g2, g3⟩, g4⟩ := g
    exact ⟨⟨hy, z, g2, g3.trans hv.symm⟩, g4⟩
  | i + 1, f :: fs, v :: vs, h, g => ⟨g.1, lx_gF_set hy hv (i := i) h g.2⟩
section LK
variable {p : Program} {l : Launch} {e : Env} {R : Room} {s : State} {m : MethodId} {args : Array Value} {below : List Frame} {meth : Method} {c : Code} {Q : State → Prop}
variable {D : va_G} {tyc : Nat → ClassId} {A : Nat → Prop} {sa : ai_B} {ws : va_W} {b Ln z0 w v k : Nat} {xs : Nat → Int32}
variable {r : Nat → Int} {ad : Nat → Nat} {H : Heap} {locs : List Loc} {ls : Array Slot} {st : List Value}
/-- what is wanted of a state at the head again -/
noncomputable def lx_Kn (p : Program) (l : Launch) (e : Env) (R : Room) (s : State) (m : MethodId) (args : Array Value) (below : List Frame) (meth : Method) (c : Code) (Q : State → Prop) (D : va_G) (tyc : Nat → ClassId) (A : Nat → Prop) (sa : ai_B) (b : Nat) (i : Int) : Prop :=
  ∀ (v k : Nat) (ws : va_W) (r : Nat → Int) (ad : Nat → Nat) (H : Heap) (locs : List Loc) (ls : Array Slot) (st : List Value) (cs sl : Nat), v ≤ k → k ≤ 4 → cs ≤ 1 → sl ≤ 6 → lx_V tyc ws r → ai_Rel D tyc A s sa ws 7 r ad lx_L [] (lx_G v 0) H locs ls st → r 1 = i + 10 → r 102 = (k : Int) → ad 0 = b → W p l e R s m args below meth c H locs cs sl Q (F0 m 23 ls st)
set_option maxHeartbeats 1000000 in
theorem lx_kind (hK : lx_K w v) (F : lx_Fr p R s m args meth c D tyc A sa) (hl : l.stackTraces = false) (hRf : 74 ≤ R.frames) (hRl : 4624 ≤ R.locals) (hsa : (z0, b, Ln, xs) ∈ sa.2) (hV : lx_V tyc ws r) (hvk : v ≤ k) (hk4 : k ≤ 4) (hR : ai_Rel D tyc A s sa ws 7 r ad lx_L [.inl (0, .ofNat w)] (lx_G v 1) H locs ls st) (hi : 0 ≤ r 1 ∧ r 1 + 10 ≤ (Ln : Int)) (h5 : r 1 ≤ 5110) (h110 : r 102 = (k : Int)) (had : ad 0 = b)
    (kn : lx_Kn p l e R s m args below meth c Q D tyc A sa b (r 1)) : W p l e R s m args below meth c H locs 0 0 Q (F0 m 40 ls st) := by
  obtain ⟨T, hT, hck⟩ := hK
  unfold lx_ck at hck
  split at hck
  · rename_i fs hrun
    have hN : (lx_G v 1).1.1 = 151 := lx_N v 1
    have hRc := hg_cap_ok hR (t := 1) (b := (0, 5110)) (by rw [hN]; omega) ⟨hi.1, h5⟩
    refine lx_ok (k0 := 60) (G := hg_cap (lx_G v 1) 1 (0, 5110)) F hl hT (by omega) (by omega) hV.1.pw hsa 16 [] false 40 lx_L _ fs r ad H locs ls st hrun hRc (by show 1 < (lx_G v 1).1.1; rw [hN]; omega) (by show 0 < 336; omega) hi had (fun q hq => by cases hq) (fun q hq => by cases hq) (fun f hf r' ad' x1 x2 x3 x4 H' locs' ls' st' hR' => ?_)
    have x1 : ai_ext (lx_G v 1).1.1 r r' := x1
    rw [hN] at x1
    obtain ⟨e1, e2, e3, r2, hR2, u⟩ := lx_to_ok (List.all_eq_true.mp hck f hf) hR'
    rw [e1]
    have q1 : r2 1 = r' 1 + 10 := u _ List.mem_cons_self
    have q2 : r2 102 = r' 102 + 0 := u _ (List.mem_cons_of_mem _ List.mem_cons_self)
    exact kn v k ws r2 ad' H' locs' ls' st' _ _ hvk hk4 e2 e3 ⟨hV.1, lx_J_k hV.2 x1 (by decide +kernel) lx_j2 u⟩ hR2 (by rw [q1, x1 1 (by omega)]) (by rw [q2, x1 102 (by omega), h110, Int.add_zero]) ((x2 0 (by show 0 < 336; omega)).trans had)
  · cases hck
end LK
