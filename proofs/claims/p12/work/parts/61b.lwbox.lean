/-! THE LAW: kinds whose numbers are told apart: reads by boxes, one number of the world one by one; arrays' told places put in their order -/
/-- a state within a head's, its told places put in order first -/
noncomputable def lx_fin (C : List Nat) (P : List (Nat × Nat × Nat)) (Dl : List Nat) (v2 : Nat) (o : List (Nat × ai_X)) (f : ai_F) : Bool := match so_G C f.2.2.2 with
  | some G' => (Nat.beq f.1 23 && (Nat.ble f.2.2.2.2.2.1 1 && Nat.ble f.2.2.2.2.2.2 6)) && cx_to v2 Dl P f.2.1 f.2.2.1 G' o
  | none => false
theorem lx_fin_ok {s : State} {D : va_G} {tyc : Nat → ClassId} {A : Nat → Prop} {sa : ai_B} {ws : va_W} {nL v v2 : Nat} {r0 r : Nat → Int} {ad : Nat → Nat} {H : Heap} {locs : List Loc} {ls : Array Slot} {st : List Value} {C : List Nat} {P : List (Nat × Nat × Nat)} {Dl : List Nat} {o : List (Nat × ai_X)} {f : ai_F}
    (hE0 : ai_gE r0 (lx_El v 1)) (hx : ai_ext (lx_El v 1).1 r0 r) (hdv : cx_dv Dl v v2 = true) (h : lx_fin C P Dl v2 o f = true) (hR : ai_Rel D tyc A s sa ws nL r ad f.2.1 f.2.2.1 f.2.2.2 H locs ls st) : f.1 = 23 ∧ f.2.2.2.2.2.1 ≤ 1 ∧ f.2.2.2.2.2.2 ≤ 6 ∧ ∃ r2, ai_Rel D tyc A s sa ws nL r2 ad lx_L [] (lx_G v2 0) H locs ls st ∧ ∀ q ∈ o, r2 q.1 = ai_vx r q.2 := by
  unfold lx_fin at h
  split at h
  · rename_i G' eG
    simp only [Bool.and_eq_true] at h
    obtain ⟨⟨h1, h2, h3⟩, h4⟩ := h
    obtain ⟨a1, -⟩ := so_G_ok eG hR
    exact ⟨Nat.eq_of_beq_eq_true h1, Nat.le_of_ble_eq_true h2, Nat.le_of_ble_eq_true h3, cx_ok hE0 hx hdv a1 h4⟩
  · cases h
theorem cx_d0 : cx_dv [] 0 0 = true := by decide +kernel
theorem cx_d1 : cx_dv [] 1 1 = true := by decide +kernel
theorem cx_d2 : cx_dv [] 2 2 = true := by decide +kernel
theorem cx_d3 : cx_dv [] 3 3 = true := by decide +kernel
theorem cx_d4 : cx_dv [] 4 4 = true := by decide +kernel
theorem cx_dd : ∀ v, v ≤ 4 → cx_dv [] v v = true := fun v h => match v, h with
  | 0, _ => cx_d0
  | 1, _ => cx_d1
  | 2, _ => cx_d2
  | 3, _ => cx_d3
  | 4, _ => cx_d4
  | n + 5, h => absurd h (by omega)
theorem cx_m0 : cx_dv lx_md 0 1 = true ∧ cx_dv lx_md 0 2 = true ∧ cx_dv lx_md 0 3 = true ∧ cx_dv lx_md 0 4 = true := by decide +kernel
theorem cx_m1 : cx_dv lx_md 1 2 = true ∧ cx_dv lx_md 1 3 = true ∧ cx_dv lx_md 1 4 = true := by decide +kernel
theorem cx_m2 : cx_dv lx_md 2 3 = true ∧ cx_dv lx_md 2 4 = true ∧ cx_dv lx_md 3 4 = true := by decide +kernel
theorem cx_dm : ∀ v k, v ≤ k → k + 1 ≤ 4 → cx_dv lx_md v (k + 1) = true := fun v k h1 h2 => match v, k with
  | 0, 0 => cx_m0.1
  | 0, 1 => cx_m0.2.1
  | 0, 2 => cx_m0.2.2.1
  | 0, 3 => cx_m0.2.2.2
  | 1, 1 => cx_m1.1
  | 1, 2 => cx_m1.2.1
  | 1, 3 => cx_m1.2.2
  | 2, 2 => cx_m2.1
  | 2, 3 => cx_m2.2.1
  | 3, 3 => cx_m2.2.2
  | 1, 0 => absurd h1 (by omega)
  | 2, 0 => absurd h1 (by omega)
  | 2, 1 => absurd h1 (by omega)
  | 3, 0 => absurd h1 (by omega)
  | 3, 1 => absurd h1 (by omega)
  | 3, 2 => absurd h1 (by omega)
  | n + 4, k => absurd h2 (by omega)
  | 0, n + 4 => absurd h2 (by omega)
  | 1, n + 4 => absurd h2 (by omega)
  | 2, n + 4 => absurd h2 (by omega)
  | 3, n + 4 => absurd h2 (by omega)
noncomputable def lx_sp (t : Nat) (k : Int) (G : ai_G) : ai_G := (G.1, (match t with
  | 0 => G.2.1
  | t + 1 => sp_h (t + 1) k G.2.1), G.2.2)
theorem lx_spn {t : Nat} {k : Int} {G : ai_G} : (lx_sp t k G).2.1.1 = G.2.1.1 := by cases t <;> rfl
theorem lx_sp_ok {s : State} {D : va_G} {tyc : Nat → ClassId} {A : Nat → Prop} {sa : ai_B} {ws : va_W} {nL : Nat} {r : Nat → Int} {ad : Nat → Nat} {L S : List ai_V} {G : ai_G} {H : Heap} {locs : List Loc} {ls : Array Slot} {st : List Value} {t : Nat} {k : Int} (hR : ai_Rel D tyc A s sa ws nL r ad L S G H locs ls st) (ht : r t = k) (h16 : ∀ q, q < 16 → ai_cell G.2.1 q = none) : ai_Rel D tyc A s sa ws nL r ad L S (lx_sp t k G) H locs ls st := by
  cases t with
  | zero => exact hR
  | succ t => exact sp_ok hR ht h16
noncomputable def lx_ckB (T : List (Nat × us_C)) (B : Int → List (Int × Int)) (C : List Nat) (P : List (Nat × Nat × Nat)) (t : Nat) (k : Int) (w v : Nat) : Bool := match lx_runB T B [23] 16 [] false 40 lx_L [.inl (0, .ofNat w)] (lx_sp t k (hg_cap (lx_G v 1) 1 (0, 5110))) with
  | some fs => fs.all (lx_fin C P [] v lx_o)
  | none => false
noncomputable def lx_KS (w v : Nat) : Prop := ∃ (B : Int → List (Int × Int)) (C : List Nat) (P : List (Nat × Nat × Nat)) (t : Nat) (lo hi : Int), Nat.blt t (lx_El v 1).1 = true ∧ ai_iv (lx_El v 1) (t, 0) = (lo, hi) ∧ ∀ k, lo ≤ k → k ≤ hi → ∃ T, lt_all 60 T ∧ lx_ckB T B C P t k w v = true
/-- a kind whose numbers are none told one by one -/
theorem lx_KS0 {w v : Nat} {T : List (Nat × us_C)} {B : Int → List (Int × Int)} {C : List Nat} {P : List (Nat × Nat × Nat)} (hT : lt_all 60 T) (h : lx_ckB T B C P 0 0 w v = true) : lx_KS w v :=
  ⟨B, C, P, 0, 0, 0, by rw [(lx_El_eq v 1).2.2]; rfl, rfl, fun k h1 h2 => ⟨T, hT, by
    have e : k = 0 := by omega
    rw [e]
    exact h⟩⟩
/-- each number of a range by a list's check -/
theorem lx_each {lo : Int} {n : Nat} {f : Int → Bool} (h : (List.range n).all (fun j => f (lo + Int.ofNat j)) = true) : ∀ k, lo ≤ k → k ≤ lo + n - 1 → f k = true := fun k h1 h2 => by
  have g := List.all_eq_true.mp h (k - lo).toNat (List.mem_range.mpr (by omega))
  have e : lo + Int.ofNat (k - lo).toNat = k := by
    show lo + ((k - lo).toNat : Int) = k
    omega
  rw [e] at g
  exact g
noncomputable def lx_mtoS (C : List Nat) (P : List (Nat × Nat × Nat)) (k v : Nat) (f : ai_F) : Bool := lx_fin C P [] v ((1, (1, 10)) :: (73, (0, .ofNat k)) :: lx_jom k k) f || (Nat.ble (k + 1) 4 && (lx_fin C P [] v ((1, (1, 10)) :: (73, (0, .ofNat (k + 1))) :: lx_jom k (k + 1)) f || lx_fin C P lx_md (k + 1) ((1, (1, 10)) :: (73, (0, .ofNat (k + 1))) :: lx_jom k (k + 1)) f))
noncomputable def lx_mkS (T : List (Nat × us_C)) (B : Int → List (Int × Int)) (C : List Nat) (P : List (Nat × Nat × Nat)) (k v : Nat) : Bool := match lx_runB T B [23] 24 [] false 40 lx_L [.inl (0, .ofNat 2)] (lx_sp 73 (.ofNat k) (hg_cap (lx_G v 1) 1 (0, 5110))) with
  | some fs => fs.all (lx_mtoS C P k v)
  | none => false
noncomputable def lx_MKS (k v : Nat) : Prop := ∃ T B C P, lt_all 60 T ∧ lx_mkS T B C P k v = true
section LKB
variable {p : Program} {l : Launch} {e : Env} {R : Room} {s : State} {m : MethodId} {args : Array Value} {below : List Frame} {meth : Method} {c : Code} {Q : State → Prop}
variable {D : va_G} {tyc : Nat → ClassId} {A : Nat → Prop} {sa : ai_B} {ws : va_W} {b Ln z0 w v k : Nat} {xs : Nat → Int32}
variable {r : Nat → Int} {ad : Nat → Nat} {H : Heap} {locs : List Loc} {ls : Array Slot} {st : List Value}
set_option maxHeartbeats 1000000 in
theorem lx_kindS (hK : lx_KS w v) (F : lx_Fr p R s m args meth c D tyc A sa) (hl : l.stackTraces = false) (hRf : 74 ≤ R.frames) (hRl : 4624 ≤ R.locals) (hsa : (z0, b, Ln, xs) ∈ sa.2) (hV : lx_V tyc ws r) (hvk : v ≤ k) (hk4 : k ≤ 4) (hR : ai_Rel D tyc A s sa ws 7 r ad lx_L [.inl (0, .ofNat w)] (lx_G v 1) H locs ls st) (hi : 0 ≤ r 1 ∧ r 1 + 10 ≤ (Ln : Int)) (h5 : r 1 ≤ 5110) (h110 : r 73 = (k : Int)) (had : ad 0 = b)
    (kn : lx_Kn p l e R s m args below meth c Q D tyc A sa b (r 1)) : W p l e R s m args below meth c H locs 0 0 Q (F0 m 40 ls st) := by
  obtain ⟨B, C, P, t, lo, hi', hbt, hiv, hK⟩ := hK
  have hE : ai_gE r (lx_El v 1) := hR.env
  have hbt : t < (lx_El v 1).1 := Nat.le_of_ble_eq_true hbt
  have hb := ai_iv_ok (x := (t, 0)) hE hbt
  rw [hiv] at hb
  have hb1 : lo ≤ r t + 0 := hb.1
  have hb2 : r t + 0 ≤ hi' := hb.2
  obtain ⟨T, hT, hck⟩ := hK (r t) (by omega) (by omega)
  unfold lx_ckB at hck
  split at hck
  · rename_i fs hrun
    have hN : (lx_G v 1).1.1 = 382 := lx_N v 1
    have hRc0 := hg_cap_ok hR (t := 1) (b := (0, 5110)) (by rw [hN]; omega) ⟨hi.1, h5⟩
    have hRc := lx_sp_ok (t := t) hRc0 rfl lx_no16
    refine lx_okB (k0 := 60) (G := lx_sp t (r t) (hg_cap (lx_G v 1) 1 (0, 5110))) F hl hT (by omega) (by omega) hV.1.pw hsa 16 [] false 40 lx_L _ fs r ad H locs ls st hrun hRc (by show 1 < (lx_G v 1).1.1; rw [hN]; omega) (by rw [lx_spn]; show 0 < 336; omega) hi had (fun q hq => by cases hq) (fun q hq => by cases hq) (fun f hf r' ad' x1 x2 x3 x4 H' locs' ls' st' hR' => ?_)
    have x1 : ai_ext (lx_El v 1).1 r r' := x1
    obtain ⟨e1, e2, e3, r2, hR2, u⟩ := lx_fin_ok hE x1 (cx_dd v (by omega)) (List.all_eq_true.mp hck f hf) hR'
    have x1 : ai_ext (lx_G v 1).1.1 r r' := x1
    rw [hN] at x1
    rw [e1]
    have q1 : r2 1 = r' 1 + 10 := u _ List.mem_cons_self
    have q2 : r2 73 = r' 73 + 0 := u _ (List.mem_cons_of_mem _ List.mem_cons_self)
    exact kn v k ws r2 ad' H' locs' ls' st' _ _ hvk hk4 e2 e3 (lx_V_k hV x1 (by decide +kernel) lx_j2 u) hR2 (by rw [q1, x1 1 (by omega)]) (by rw [q2, x1 73 (by omega), h110, Int.add_zero]) ((x2 0 (by rw [lx_spn]; show 0 < 336; omega)).trans had)
  · cases hck
set_option maxHeartbeats 1000000 in
theorem lx_millS (hK : lx_MKS k v) (F : lx_Fr p R s m args meth c D tyc A sa) (hl : l.stackTraces = false) (hRf : 74 ≤ R.frames) (hRl : 4624 ≤ R.locals) (hsa : (z0, b, Ln, xs) ∈ sa.2) (hV : lx_V tyc ws r) (hvk : v ≤ k) (hk4 : k ≤ 4) (hR : ai_Rel D tyc A s sa ws 7 r ad lx_L [.inl (0, .ofNat 2)] (lx_G v 1) H locs ls st) (hi : 0 ≤ r 1 ∧ r 1 + 10 ≤ (Ln : Int)) (h5 : r 1 ≤ 5110) (h110 : r 73 = (k : Int)) (had : ad 0 = b)
    (kn : lx_Kn p l e R s m args below meth c Q D tyc A sa b (r 1)) : W p l e R s m args below meth c H locs 0 0 Q (F0 m 40 ls st) := by
  obtain ⟨T, B, C, P, hT, hck⟩ := hK
  have hE : ai_gE r (lx_El v 1) := hR.env
  unfold lx_mkS at hck
  split at hck
  · rename_i fs hrun
    have hN : (lx_G v 1).1.1 = 382 := lx_N v 1
    have hRc0 := hg_cap_ok hR (t := 1) (b := (0, 5110)) (by rw [hN]; omega) ⟨hi.1, h5⟩
    have hRc := lx_sp_ok (t := 73) (k := .ofNat k) hRc0 h110 lx_no16
    refine lx_okB (k0 := 60) (G := lx_sp 73 (.ofNat k) (hg_cap (lx_G v 1) 1 (0, 5110))) F hl hT (by omega) (by omega) hV.1.pw hsa 24 [] false 40 lx_L _ fs r ad H locs ls st hrun hRc (by show 1 < (lx_G v 1).1.1; rw [hN]; omega) (by rw [lx_spn]; show 0 < 336; omega) hi had (fun q hq => by cases hq) (fun q hq => by cases hq) (fun f hf r' ad' x1 x2 x3 x4 H' locs' ls' st' hR' => ?_)
    have x1 : ai_ext (lx_El v 1).1 r r' := x1
    have hto := List.all_eq_true.mp hck f hf
    have hr0 : r' 0 = 0 := hR'.env.1
    have had' : ad' 0 = b := (x2 0 (by rw [lx_spn]; show 0 < 336; omega)).trans had
    have x2' : r' 1 = r 1 := x1 1 (by rw [(lx_El_eq v 1).2.2]; show 1 < 382; omega)
    have fin : ∀ v2 k2 Dl, k ≤ k2 → v2 ≤ k2 → k2 ≤ 4 → cx_dv Dl v v2 = true → lx_fin C P Dl v2 ((1, (1, 10)) :: (73, (0, .ofNat k2)) :: lx_jom k k2) f = true → W p l e R s m args below meth c H' locs' f.2.2.2.2.2.1 f.2.2.2.2.2.2 Q (F0 m f.1 ls' st') := fun v2 k2 Dl akk a1 a2 a3 a4 => by
      obtain ⟨e1, e2, e3, r2, hR2, u⟩ := lx_fin_ok hE x1 a3 a4 hR'
      rw [e1]
      have q1 : r2 1 = r' 1 + 10 := u _ List.mem_cons_self
      have q2 : r2 73 = r' 0 + (k2 : Int) := u _ (List.mem_cons_of_mem _ List.mem_cons_self)
      exact kn v2 k2 ws r2 ad' H' locs' ls' st' _ _ a1 a2 e2 e3 (lx_V_m hV hE.1 h110 hk4 akk x1 (by rw [(lx_El_eq v 1).2.2]; decide +kernel) (q2.trans (by rw [hr0, Int.zero_add])) lx_jm2 u) hR2 (by rw [q1, x2']) (by rw [q2, hr0]; exact Int.zero_add _) had'
    unfold lx_mtoS at hto
    rw [Bool.or_eq_true] at hto
    rcases hto with hto | hto
    · exact fin v k [] (Nat.le_refl _) hvk hk4 (cx_dd v (by omega)) hto
    · rw [Bool.and_eq_true, Bool.or_eq_true] at hto
      have hk1 := Nat.le_of_ble_eq_true hto.1
      rcases hto.2 with hto | hto
      · exact fin v (k + 1) [] (Nat.le_succ _) (by omega) hk1 (cx_dd v (by omega)) hto
      · exact fin (k + 1) (k + 1) lx_md (Nat.le_succ _) (Nat.le_refl _) hk1 (cx_dm v k hvk hk1) hto
  · cases hck
end LKB
