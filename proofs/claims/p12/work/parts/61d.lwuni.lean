/-! THE LAW: kinds that are told once for all variants: the start has the widest bounds -/
noncomputable def lx_ckU (T : List (Nat × us_C)) (B : Int → List (Int × Int)) (C : List Nat) (P : List (Nat × Nat × Nat)) (t : Nat) (k : Int) (w : Nat) : Bool := match lx_runB T B [23] 16 [] false 40 lx_L [.inl (0, .ofNat w)] (lx_sp t k (hg_cap (lx_E5, lx_h, 0, 0) 1 (0, 5110))) with
  | some fs => fs.all (lx_fin C P [] 0 lx_o)
  | none => false
/-- the numbers that are changed have one bound for all variants -/
noncomputable def lx_pc (P : List (Nat × Nat × Nat)) : Bool := P.all (fun q => (List.range 5).all (fun v => match fz_look (lx_El 0 0).2.1 q.1, fz_look (lx_El v 0).2.1 q.1 with
  | (a, b), (c, d) => ai_eq a c && ai_eq b d))
noncomputable def lx_KU (w : Nat) : Prop := ∃ (B : Int → List (Int × Int)) (C : List Nat) (P : List (Nat × Nat × Nat)) (t : Nat) (lo hi : Int), Nat.blt t lx_E5.1 = true ∧ ai_iv lx_E5 (t, 0) = (lo, hi) ∧ lx_pc P = true ∧ ∀ k, lo ≤ k → k ≤ hi → ∃ T, lt_all 60 T ∧ lx_ckU T B C P t k w = true
theorem lx_E5N : lx_E5.1 = 382 := rfl
theorem lx_KU0 {w : Nat} {T : List (Nat × us_C)} {B : Int → List (Int × Int)} {C : List Nat} {P : List (Nat × Nat × Nat)} (hP : lx_pc P = true) (hT : lt_all 60 T) (h : lx_ckU T B C P 0 0 w = true) : lx_KU w :=
  ⟨B, C, P, 0, 0, 0, by rw [lx_E5N]; rfl, rfl, hP, fun k h1 h2 => ⟨T, hT, by
    have e : k = 0 := by omega
    rw [e]
    exact h⟩⟩
noncomputable def lx_E5w (v : Nat) : Bool := lx_E5.2.1.all (fun q => Nat.blt q.1 382 && (match fz_look (lx_El v 1).2.1 q.1 with | (a, b) => ai_le q.2.1 a && ai_le b q.2.2))
theorem lx_w0 : lx_E5w 0 = true := by decide +kernel
theorem lx_w1 : lx_E5w 1 = true := by decide +kernel
theorem lx_w2 : lx_E5w 2 = true := by decide +kernel
theorem lx_w3 : lx_E5w 3 = true := by decide +kernel
theorem lx_w4 : lx_E5w 4 = true := by decide +kernel
theorem lx_wv : ∀ v, lx_E5w v = true := fun v => match v with
  | 0 => lx_w0
  | 1 => lx_w1
  | 2 => lx_w2
  | 3 => lx_w3
  | _ + 4 => lx_w4
theorem lx_E5e (v : Nat) : (lx_El v 1).1 = lx_E5.1 := (lx_El_eq v 1).2.2
theorem lx_E5_ok {r : Nat → Int} {v : Nat} (hE : ai_gE r (lx_El v 1)) : ai_gE r lx_E5 := by
  have eN := lx_E5e v
  refine ⟨hE.1, by rw [lx_E5N]; exact Nat.succ_pos _, fun t ht => hE.2.2.1 t (by rw [eN]; exact ht), fun q hq => ?_, fun q hq => by cases hq⟩
  have g := List.all_eq_true.mp (lx_wv v) q hq
  rw [Bool.and_eq_true, fz_look_eq] at g
  have g1 : q.1 < 382 := Nat.le_of_ble_eq_true g.1
  have hq1 : q.1 < (lx_El v 1).1 := by
    rw [eN, lx_E5N]
    exact g1
  refine ⟨by rw [lx_E5N]; exact g1, ?_⟩
  have b := ai_look_ok (r := r) (l := (lx_El v 1).2.1) (fun z hz => (hE.2.2.2.1 z hz).2) q.1 (hE.2.2.1 _ hq1)
  have g2 := g.2
  cases el : ai_look (lx_El v 1).2.1 q.1 with
  | mk a b' =>
    rw [el] at g2 b
    rw [Bool.and_eq_true] at g2
    have k1 := ai_le_iff.mp g2.1
    have k2 := ai_le_iff.mp g2.2
    have b1 : a ≤ r q.1 := b.1
    have b2 : r q.1 ≤ b' := b.2
    exact ⟨by omega, by omega⟩
theorem lx_wide {s0 : State} {D : va_G} {tyc : Nat → ClassId} {A : Nat → Prop} {sa : ai_B} {ws : va_W} {nL : Nat} {r : Nat → Int} {ad : Nat → Nat} {L S : List ai_V} {H : Heap} {locs : List Loc} {ls : Array Slot} {st : List Value} {E E' : ai_E} {h : ai_H} {c sl : Nat} (e : E.1 = E'.1) (hE : ai_gE r E') (hR : ai_Rel D tyc A s0 sa ws nL r ad L S (E, h, c, sl) H locs ls st) : ai_Rel D tyc A s0 sa ws nL r ad L S (E', h, c, sl) H locs ls st := by
  obtain ⟨ws1, hP, hD, hS, -, hH, hO, hsa, hL, hSt⟩ := hR
  refine ⟨ws1, hP, hD, hS, hE, ?_, ?_, hsa, ?_, ?_⟩
  · have q : ai_gH tyc r ad E.1 ws h ws1 := hH
    rw [e] at q
    exact q
  · have q : ai_gO sa.2 r ad E.1 h := hO
    rw [e] at q
    exact q
  · have q : ai_gL r ad E.1 h.1 nL L ls := hL
    rw [e] at q
    exact q
  · have q : ai_gS r ad E.1 h.1 S st := hSt
    rw [e] at q
    exact q
theorem lx_pc_ok {P : List (Nat × Nat × Nat)} {v : Nat} (h : lx_pc P = true) (hv : v ≤ 4) (p : Nat × Nat × Nat) (hp : p ∈ P) : fz_look (lx_El 0 0).2.1 p.1 = fz_look (lx_El v 0).2.1 p.1 := by
  have g := List.all_eq_true.mp (List.all_eq_true.mp h p hp) v (List.mem_range.mpr (by omega))
  cases e1 : fz_look (lx_El 0 0).2.1 p.1 with
  | mk a b => cases e2 : fz_look (lx_El v 0).2.1 p.1 with
    | mk c d =>
      rw [e1, e2] at g
      rw [Bool.and_eq_true] at g
      rw [ai_eq_iff.mp g.1, ai_eq_iff.mp g.2]
theorem lx_fin_any {C : List Nat} {P : List (Nat × Nat × Nat)} {o : List (Nat × ai_X)} {f : ai_F} {v : Nat} (hP : lx_pc P = true) (hv : v ≤ 4) (h : lx_fin C P [] 0 o f = true) : lx_fin C P [] v o f = true := by
  unfold lx_fin at h ⊢
  cases e : so_G C f.2.2.2 with
  | none =>
    rw [e] at h
    cases h
  | some G' =>
    rw [e] at h
    dsimp only at h ⊢
    rw [Bool.and_eq_true] at h ⊢
    refine ⟨h.1, ?_⟩
    have h2 := h.2
    unfold cx_to cx_go at h2 ⊢
    rw [Bool.and_eq_true, Bool.and_eq_true (_ && _) (_ && _), Bool.and_eq_true (cx_bds _ _ _ _)] at h2 ⊢
    refine ⟨h2.1, h2.2.1, ?_, h2.2.2.2⟩
    have hb := h2.2.2.1
    unfold cx_bds at hb ⊢
    rw [Bool.and_eq_true] at hb ⊢
    refine ⟨List.all_eq_true.mpr (fun q hq => ?_), rfl⟩
    have g := List.all_eq_true.mp hb.1 q hq
    obtain ⟨p, hp, rfl⟩ := List.mem_map.mp hq
    have e9 := lx_pc_ok hP hv p hp
    have g : cx_bd G'.1 (cx_at f.2.1 G'.2.1 p.2.1 p.2.2) (fz_look (lx_El 0 0).2.1 p.1) = true := g
    rw [e9] at g
    exact g
noncomputable def lx_KV (w v : Nat) : Prop := lx_KS w v ∨ lx_KU w
section LKU
variable {p : Program} {l : Launch} {e : Env} {R : Room} {s : State} {m : MethodId} {args : Array Value} {below : List Frame} {meth : Method} {c : Code} {Q : State → Prop}
variable {D : va_G} {tyc : Nat → ClassId} {A : Nat → Prop} {sa : ai_B} {ws : va_W} {b Ln z0 w v k : Nat} {xs : Nat → Int32}
variable {r : Nat → Int} {ad : Nat → Nat} {H : Heap} {locs : List Loc} {ls : Array Slot} {st : List Value}
set_option maxHeartbeats 1000000 in
theorem lx_kindU (hK : lx_KU w) (F : lx_Fr p R s m args meth c D tyc A sa) (hl : l.stackTraces = false) (hRf : 74 ≤ R.frames) (hRl : 4624 ≤ R.locals) (hsa : (z0, b, Ln, xs) ∈ sa.2) (hV : lx_V tyc ws r) (hvk : v ≤ k) (hk4 : k ≤ 4) (hR : ai_Rel D tyc A s sa ws 7 r ad lx_L [.inl (0, .ofNat w)] (lx_G v 1) H locs ls st) (hi : 0 ≤ r 1 ∧ r 1 + 10 ≤ (Ln : Int)) (h5 : r 1 ≤ 5110) (h110 : r 73 = (k : Int)) (had : ad 0 = b)
    (kn : lx_Kn p l e R s m args below meth c Q D tyc A sa b (r 1)) : W p l e R s m args below meth c H locs 0 0 Q (F0 m 40 ls st) := by
  obtain ⟨B, C, P, t, lo, hi', hbt, hiv, hP, hK⟩ := hK
  have hE : ai_gE r (lx_El v 1) := hR.env
  have hE5 : ai_gE r lx_E5 := lx_E5_ok hE
  have eN := lx_E5e v
  have hR5 := lx_wide (E := lx_El v 1) (E' := lx_E5) (h := lx_h) (c := 0) (sl := 0) eN hE5 hR
  have hbt : t < lx_E5.1 := Nat.le_of_ble_eq_true hbt
  have hb := ai_iv_ok (x := (t, 0)) hE5 hbt
  rw [hiv] at hb
  have hb1 : lo ≤ r t + 0 := hb.1
  have hb2 : r t + 0 ≤ hi' := hb.2
  obtain ⟨T, hT, hck⟩ := hK (r t) (by omega) (by omega)
  unfold lx_ckU at hck
  split at hck
  · rename_i fs hrun
    have hN : lx_E5.1 = 382 := lx_E5N
    have hRc0 := hg_cap_ok hR5 (t := 1) (b := (0, 5110)) (by show 1 < lx_E5.1; rw [hN]; omega) ⟨hi.1, h5⟩
    have hRc := lx_sp_ok (t := t) hRc0 rfl lx_no16
    refine lx_okB (k0 := 60) (G := lx_sp t (r t) (hg_cap (lx_E5, lx_h, 0, 0) 1 (0, 5110))) F hl hT (by omega) (by omega) hV.1.pw hsa 16 [] false 40 lx_L _ fs r ad H locs ls st hrun hRc (by show 1 < lx_E5.1; rw [hN]; omega) (by rw [lx_spn]; show 0 < 336; omega) hi had (fun q hq => by cases hq) (fun q hq => by cases hq) (fun f hf r' ad' x1 x2 x3 x4 H' locs' ls' st' hR' => ?_)
    have x1 : ai_ext lx_E5.1 r r' := x1
    have x1' : ai_ext (lx_El v 1).1 r r' := by
      rw [eN]
      exact x1
    obtain ⟨e1, e2, e3, r2, hR2, u⟩ := lx_fin_ok hE x1' (cx_dd v (by omega)) (lx_fin_any hP (by omega) (List.all_eq_true.mp hck f hf)) hR'
    rw [hN] at x1
    rw [e1]
    have q1 : r2 1 = r' 1 + 10 := u _ List.mem_cons_self
    have q2 : r2 73 = r' 73 + 0 := u _ (List.mem_cons_of_mem _ List.mem_cons_self)
    exact kn v k ws r2 ad' H' locs' ls' st' _ _ hvk hk4 e2 e3 (lx_V_k hV x1 (by decide +kernel) lx_j2 u) hR2 (by rw [q1, x1 1 (by omega)]) (by rw [q2, x1 73 (by omega), h110, Int.add_zero]) ((x2 0 (by rw [lx_spn]; show 0 < 336; omega)).trans had)
  · cases hck
theorem lx_kindV (hK : lx_KV w v) (F : lx_Fr p R s m args meth c D tyc A sa) (hl : l.stackTraces = false) (hRf : 74 ≤ R.frames) (hRl : 4624 ≤ R.locals) (hsa : (z0, b, Ln, xs) ∈ sa.2) (hV : lx_V tyc ws r) (hvk : v ≤ k) (hk4 : k ≤ 4) (hR : ai_Rel D tyc A s sa ws 7 r ad lx_L [.inl (0, .ofNat w)] (lx_G v 1) H locs ls st) (hi : 0 ≤ r 1 ∧ r 1 + 10 ≤ (Ln : Int)) (h5 : r 1 ≤ 5110) (h110 : r 73 = (k : Int)) (had : ad 0 = b)
    (kn : lx_Kn p l e R s m args below meth c Q D tyc A sa b (r 1)) : W p l e R s m args below meth c H locs 0 0 Q (F0 m 40 ls st) := by
  rcases hK with hK | hK
  · exact lx_kindS hK F hl hRf hRl hsa hV hvk hk4 hR hi h5 h110 had kn
  · exact lx_kindU hK F hl hRf hRl hsa hV hvk hk4 hR hi h5 h110 had kn
end LKU
