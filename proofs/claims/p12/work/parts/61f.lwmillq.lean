/-! THE LAW: mill by boxes that hold what the script really has -/
noncomputable def lx_mkA (T : List (Nat × us_C)) (B : Int → List (Int × Int)) (C : List Nat) (P : List (Nat × Nat × Nat)) (k v : Nat) : Bool := match lx_runA T B [23] 24 [] false 40 lx_L [.inl (0, .ofNat 2)] (lx_sp 73 (.ofNat k) (hg_cap (lx_G v 1) 1 (0, 5110))) with
  | some fs => fs.all (lx_mtoS C P k v)
  | none => false
noncomputable def lx_mtU (C : List Nat) (P0 P : List (Nat × Nat × Nat)) (k : Nat) (f : ai_F) : Bool := lx_fin C P0 [] 0 ((1, (1, 10)) :: (73, (0, .ofNat k)) :: lx_jom k k) f || (Nat.ble (k + 1) 4 && lx_fin C P [] 0 ((1, (1, 10)) :: (73, (0, .ofNat (k + 1))) :: lx_jom k (k + 1)) f)
/-- kinds that come to the same for every variant -/
noncomputable def lx_mkU (T : List (Nat × us_C)) (B : Int → List (Int × Int)) (C : List Nat) (P0 P : List (Nat × Nat × Nat)) (k : Nat) : Bool := match lx_runA T B [23] 24 [] false 40 lx_L [.inl (0, .ofNat 2)] (lx_sp 73 (.ofNat k) (hg_cap (lx_E5, lx_h, 0, 0) 1 (0, 5110))) with
  | some fs => fs.all (lx_mtU C P0 P k)
  | none => false
/-- the numbers that are changed have one bound for all variants up to k -/
noncomputable def lx_pcK (k : Nat) (P : List (Nat × Nat × Nat)) : Bool := P.all (fun q => (List.range (k + 1)).all (fun v => match fz_look (lx_El 0 0).2.1 q.1, fz_look (lx_El v 0).2.1 q.1 with
  | (a, b), (c, d) => ai_eq a c && ai_eq b d))
theorem lx_pcK_ok {k : Nat} {P : List (Nat × Nat × Nat)} {v : Nat} (h : lx_pcK k P = true) (hv : v ≤ k) (p : Nat × Nat × Nat) (hp : p ∈ P) : fz_look (lx_El 0 0).2.1 p.1 = fz_look (lx_El v 0).2.1 p.1 := by
  have g := List.all_eq_true.mp (List.all_eq_true.mp h p hp) v (List.mem_range.mpr (by omega))
  cases e1 : fz_look (lx_El 0 0).2.1 p.1 with
  | mk a b => cases e2 : fz_look (lx_El v 0).2.1 p.1 with
    | mk c d =>
      rw [e1, e2] at g
      rw [Bool.and_eq_true] at g
      rw [ai_eq_iff.mp g.1, ai_eq_iff.mp g.2]
theorem lx_fin_anyK {k : Nat} {C : List Nat} {P : List (Nat × Nat × Nat)} {o : List (Nat × ai_X)} {f : ai_F} {v : Nat} (hP : lx_pcK k P = true) (hv : v ≤ k) (h : lx_fin C P [] 0 o f = true) : lx_fin C P [] v o f = true := by
  unfold lx_fin at h ⊢
  cases e : so_G C f.2.2.2 with
  | none =>
    rw [e] at h
    cases h
  | some G' =>
    rw [e] at h
    dsimp only at h ⊢
    rw [Bool.and_eq_true] at h ⊢
    refine ⟨h.1, ?_⟩
    have h2 := h.2
    unfold cx_to cx_go at h2 ⊢
    rw [Bool.and_eq_true, Bool.and_eq_true (_ && _) (_ && _), Bool.and_eq_true (cx_bds _ _ _ _)] at h2 ⊢
    refine ⟨h2.1, h2.2.1, ?_, h2.2.2.2⟩
    have hb := h2.2.2.1
    unfold cx_bds at hb ⊢
    rw [Bool.and_eq_true] at hb ⊢
    refine ⟨List.all_eq_true.mpr (fun q hq => ?_), rfl⟩
    have g := List.all_eq_true.mp hb.1 q hq
    obtain ⟨p, hp, rfl⟩ := List.mem_map.mp hq
    have e9 := lx_pcK_ok hP hv p hp
    have g : cx_bd G'.1 (cx_at f.2.1 G'.2.1 p.2.1 p.2.2) (fz_look (lx_El 0 0).2.1 p.1) = true := g
    rw [e9] at g
    exact g
noncomputable def lx_bk (a b : Int) : Int → List (Int × Int) := fun j => if j = 2 then [(a, b)] else [(ai_lo32, ai_hi32)]
theorem lx_bk_cov {a b : Int} {y : Int → Int} (hy : ∀ k, ai_lo32 ≤ y k ∧ y k ≤ ai_hi32) (h : a ≤ y 2 ∧ y 2 ≤ b) : ∀ k, 0 ≤ k → k ≤ 9 → ∃ q ∈ lx_bk a b k, q.1 ≤ y k ∧ y k ≤ q.2 := fun k _ _ => by
  unfold lx_bk
  split
  · rename_i e
    rw [e]
    exact ⟨_, List.mem_cons_self, h⟩
  · exact ⟨_, List.mem_cons_self, hy k⟩
noncomputable def lx_MKQ (k v : Nat) : Prop := ∀ y : Int → Int, (∀ j, ai_lo32 ≤ y j ∧ y j ≤ ai_hi32) → ∃ (T : List (Nat × us_C)) (B : Int → List (Int × Int)) (C : List Nat) (P : List (Nat × Nat × Nat)), (∀ j, 0 ≤ j → j ≤ 9 → ∃ b ∈ B j, b.1 ≤ y j ∧ y j ≤ b.2) ∧ lt_all 60 T ∧ (lx_mkA T B C P k v = true ∨ ∃ P0, lx_pcK k P0 = true ∧ lx_pcK k P = true ∧ lx_mkU T B C P0 P k = true)
/-- mill by kinds: below 0, above 3, 0, 1, 3 for all variants, 2 by variant -/
theorem lx_MKQ5 {k v : Nat} {T T2 : List (Nat × us_C)} {C C2 : List Nat} {P0 P P2 : List (Nat × Nat × Nat)} (hT : lt_all 60 T) (hT2 : lt_all 60 T2) (hP0 : lx_pcK k P0 = true) (hP : lx_pcK k P = true) (h1 : lx_mkU T (lx_bk (-2147483648) (-1)) C P0 P k = true) (h2 : lx_mkU T (lx_bk 4 2147483647) C P0 P k = true) (h3 : lx_mkU T (lx_bk 0 0) C P0 P k = true) (h4 : lx_mkU T (lx_bk 1 1) C P0 P k = true) (h5 : lx_mkU T (lx_bk 3 3) C P0 P k = true) (h6 : lx_mkA T2 (lx_bk 2 2) C2 P2 k v = true) : lx_MKQ k v := fun y hy => by
  have b2 := hy 2
  unfold ai_lo32 ai_hi32 at b2
  by_cases p1 : y 2 ≤ -1
  · exact ⟨_, _, _, _, lx_bk_cov hy ⟨b2.1, p1⟩, hT, Or.inr ⟨P0, hP0, hP, h1⟩⟩
  by_cases p2 : 4 ≤ y 2
  · exact ⟨_, _, _, _, lx_bk_cov hy ⟨p2, b2.2⟩, hT, Or.inr ⟨P0, hP0, hP, h2⟩⟩
  by_cases p3 : y 2 = 0
  · exact ⟨_, _, _, _, lx_bk_cov hy ⟨by omega, by omega⟩, hT, Or.inr ⟨P0, hP0, hP, h3⟩⟩
  by_cases p4 : y 2 = 1
  · exact ⟨_, _, _, _, lx_bk_cov hy ⟨by omega, by omega⟩, hT, Or.inr ⟨P0, hP0, hP, h4⟩⟩
  by_cases p5 : y 2 = 3
  · exact ⟨_, _, _, _, lx_bk_cov hy ⟨by omega, by omega⟩, hT, Or.inr ⟨P0, hP0, hP, h5⟩⟩
  exact ⟨_, _, _, _, lx_bk_cov hy ⟨by omega, by omega⟩, hT2, Or.inl h6⟩
theorem lx_MKQ1 {k v : Nat} {T : List (Nat × us_C)} {C : List Nat} {P0 P : List (Nat × Nat × Nat)} (hT : lt_all 60 T) (hP0 : lx_pcK k P0 = true) (hP : lx_pcK k P = true) (h1 : lx_mkU T bx_0 C P0 P k = true) : lx_MKQ k v := fun y hy =>
  ⟨_, _, _, _, fun j _ _ => ⟨_, List.mem_cons_self, hy j⟩, hT, Or.inr ⟨P0, hP0, hP, h1⟩⟩
section LMA
variable {p : Program} {l : Launch} {e : Env} {R : Room} {s : State} {m : MethodId} {args : Array Value} {below : List Frame} {meth : Method} {c : Code} {Q : State → Prop}
variable {D : va_G} {tyc : Nat → ClassId} {A : Nat → Prop} {sa : ai_B} {ws : va_W} {b Ln z0 w v k : Nat} {xs : Nat → Int32}
variable {r : Nat → Int} {ad : Nat → Nat} {H : Heap} {locs : List Loc} {ls : Array Slot} {st : List Value}
set_option maxHeartbeats 1000000 in
theorem lx_millA {T : List (Nat × us_C)} {B : Int → List (Int × Int)} {C : List Nat} {P : List (Nat × Nat × Nat)} (hBx : ∀ j, 0 ≤ j → j ≤ 9 → ∃ b ∈ B j, b.1 ≤ (xs (r 1 + j).toNat).toInt ∧ (xs (r 1 + j).toNat).toInt ≤ b.2) (hT : lt_all 60 T) (hck : lx_mkA T B C P k v = true) (F : lx_Fr p R s m args meth c D tyc A sa) (hl : l.stackTraces = false) (hRf : 74 ≤ R.frames) (hRl : 4624 ≤ R.locals) (hsa : (z0, b, Ln, xs) ∈ sa.2) (hV : lx_V tyc ws r) (hvk : v ≤ k) (hk4 : k ≤ 4) (hR : ai_Rel D tyc A s sa ws 7 r ad lx_L [.inl (0, .ofNat 2)] (lx_G v 1) H locs ls st) (hi : 0 ≤ r 1 ∧ r 1 + 10 ≤ (Ln : Int)) (h5 : r 1 ≤ 5110) (h110 : r 73 = (k : Int)) (had : ad 0 = b)
    (kn : lx_Kn p l e R s m args below meth c Q D tyc A sa b (r 1)) : W p l e R s m args below meth c H locs 0 0 Q (F0 m 40 ls st) := by
  have hE : ai_gE r (lx_El v 1) := hR.env
  unfold lx_mkA at hck
  split at hck
  · rename_i fs hrun
    have hN : (lx_G v 1).1.1 = 382 := lx_N v 1
    have hRc0 := hg_cap_ok hR (t := 1) (b := (0, 5110)) (by rw [hN]; omega) ⟨hi.1, h5⟩
    have hRc := lx_sp_ok (t := 73) (k := .ofNat k) hRc0 h110 lx_no16
    refine lx_okA (k0 := 60) (i0 := r 1) (G := lx_sp 73 (.ofNat k) (hg_cap (lx_G v 1) 1 (0, 5110))) F hl hT (by omega) (by omega) hV.1.pw hsa hBx 24 [] false 40 lx_L _ fs r ad H locs ls st hrun rfl hRc (by show 1 < (lx_G v 1).1.1; rw [hN]; omega) (by rw [lx_spn]; show 0 < 336; omega) hi had (fun q hq => by cases hq) (fun q hq => by cases hq) (fun f hf r' ad' x1 x2 x3 x4 H' locs' ls' st' hR' => ?_)
    have x1 : ai_ext (lx_El v 1).1 r r' := x1
    have hto := List.all_eq_true.mp hck f hf
    have hr0 : r' 0 = 0 := hR'.env.1
    have had' : ad' 0 = b := (x2 0 (by rw [lx_spn]; show 0 < 336; omega)).trans had
    have x2' : r' 1 = r 1 := x1 1 (by rw [(lx_El_eq v 1).2.2]; show 1 < 382; omega)
    have fin : ∀ v2 k2 Dl, k ≤ k2 → v2 ≤ k2 → k2 ≤ 4 → cx_dv Dl v v2 = true → lx_fin C P Dl v2 ((1, (1, 10)) :: (73, (0, .ofNat k2)) :: lx_jom k k2) f = true → W p l e R s m args below meth c H' locs' f.2.2.2.2.2.1 f.2.2.2.2.2.2 Q (F0 m f.1 ls' st') := fun v2 k2 Dl akk a1 a2 a3 a4 => by
      obtain ⟨e1, e2, e3, r2, hR2, u⟩ := lx_fin_ok hE x1 a3 a4 hR'
      rw [e1]
      have q1 : r2 1 = r' 1 + 10 := u _ List.mem_cons_self
      have q2 : r2 73 = r' 0 + (k2 : Int) := u _ (List.mem_cons_of_mem _ List.mem_cons_self)
      exact kn v2 k2 ws r2 ad' H' locs' ls' st' _ _ a1 a2 e2 e3 (lx_V_m hV hE.1 h110 hk4 akk x1 (by rw [(lx_El_eq v 1).2.2]; decide +kernel) (q2.trans (by rw [hr0, Int.zero_add])) lx_jm2 u) hR2 (by rw [q1, x2']) (by rw [q2, hr0]; exact Int.zero_add _) had'
    unfold lx_mtoS at hto
    rw [Bool.or_eq_true] at hto
    rcases hto with hto | hto
    · exact fin v k [] (Nat.le_refl _) hvk hk4 (cx_dd v (by omega)) hto
    · rw [Bool.and_eq_true, Bool.or_eq_true] at hto
      have hk1 := Nat.le_of_ble_eq_true hto.1
      rcases hto.2 with hto | hto
      · exact fin v (k + 1) [] (Nat.le_succ _) (by omega) hk1 (cx_dd v (by omega)) hto
      · exact fin (k + 1) (k + 1) lx_md (Nat.le_succ _) (Nat.le_refl _) hk1 (cx_dm v k hvk hk1) hto
  · cases hck
set_option maxHeartbeats 1000000 in
theorem lx_millU {T : List (Nat × us_C)} {B : Int → List (Int × Int)} {C : List Nat} {P : List (Nat × Nat × Nat)} (hBx : ∀ j, 0 ≤ j → j ≤ 9 → ∃ b ∈ B j, b.1 ≤ (xs (r 1 + j).toNat).toInt ∧ (xs (r 1 + j).toNat).toInt ≤ b.2) (hT : lt_all 60 T) {P0 : List (Nat × Nat × Nat)} (hP0 : lx_pcK k P0 = true) (hP : lx_pcK k P = true) (hck : lx_mkU T B C P0 P k = true) (F : lx_Fr p R s m args meth c D tyc A sa) (hl : l.stackTraces = false) (hRf : 74 ≤ R.frames) (hRl : 4624 ≤ R.locals) (hsa : (z0, b, Ln, xs) ∈ sa.2) (hV : lx_V tyc ws r) (hvk : v ≤ k) (hk4 : k ≤ 4) (hR : ai_Rel D tyc A s sa ws 7 r ad lx_L [.inl (0, .ofNat 2)] (lx_G v 1) H locs ls st) (hi : 0 ≤ r 1 ∧ r 1 + 10 ≤ (Ln : Int)) (h5 : r 1 ≤ 5110) (h110 : r 73 = (k : Int)) (had : ad 0 = b)
    (kn : lx_Kn p l e R s m args below meth c Q D tyc A sa b (r 1)) : W p l e R s m args below meth c H locs 0 0 Q (F0 m 40 ls st) := by
  have hE : ai_gE r (lx_El v 1) := hR.env
  have hE5 : ai_gE r lx_E5 := lx_E5_ok hE
  have eN := lx_E5e v
  have hR5 := lx_wide (E := lx_El v 1) (E' := lx_E5) (h := lx_h) (c := 0) (sl := 0) eN hE5 hR
  unfold lx_mkU at hck
  split at hck
  · rename_i fs hrun
    have hN : lx_E5.1 = 382 := lx_E5N
    have hRc0 := hg_cap_ok hR5 (t := 1) (b := (0, 5110)) (by show 1 < lx_E5.1; rw [hN]; omega) ⟨hi.1, h5⟩
    have hRc := lx_sp_ok (t := 73) (k := .ofNat k) hRc0 h110 lx_no16
    refine lx_okA (k0 := 60) (i0 := r 1) (G := lx_sp 73 (.ofNat k) (hg_cap (lx_E5, lx_h, 0, 0) 1 (0, 5110))) F hl hT (by omega) (by omega) hV.1.pw hsa hBx 24 [] false 40 lx_L _ fs r ad H locs ls st hrun rfl hRc (by show 1 < lx_E5.1; rw [hN]; omega) (by rw [lx_spn]; show 0 < 336; omega) hi had (fun q hq => by cases hq) (fun q hq => by cases hq) (fun f hf r' ad' x1 x2 x3 x4 H' locs' ls' st' hR' => ?_)
    have x1 : ai_ext lx_E5.1 r r' := x1
    have x1 : ai_ext (lx_El v 1).1 r r' := by
      rw [eN]
      exact x1
    have hto := List.all_eq_true.mp hck f hf
    have hr0 : r' 0 = 0 := hR'.env.1
    have had' : ad' 0 = b := (x2 0 (by rw [lx_spn]; show 0 < 336; omega)).trans had
    have x2' : r' 1 = r 1 := x1 1 (by rw [(lx_El_eq v 1).2.2]; show 1 < 382; omega)
    have fin : ∀ (Pq : List (Nat × Nat × Nat)) k2, k ≤ k2 → lx_pcK k Pq = true → v ≤ k2 → k2 ≤ 4 → lx_fin C Pq [] 0 ((1, (1, 10)) :: (73, (0, .ofNat k2)) :: lx_jom k k2) f = true → W p l e R s m args below meth c H' locs' f.2.2.2.2.2.1 f.2.2.2.2.2.2 Q (F0 m f.1 ls' st') := fun Pq k2 akk a0 a1 a2 a4 => by
      obtain ⟨e1, e2, e3, r2, hR2, u⟩ := lx_fin_ok hE x1 (cx_dd v (by omega)) (lx_fin_anyK a0 hvk a4) hR'
      rw [e1]
      have q1 : r2 1 = r' 1 + 10 := u _ List.mem_cons_self
      have q2 : r2 73 = r' 0 + (k2 : Int) := u _ (List.mem_cons_of_mem _ List.mem_cons_self)
      exact kn v k2 ws r2 ad' H' locs' ls' st' _ _ a1 a2 e2 e3 (lx_V_m hV hE.1 h110 hk4 akk x1 (by rw [(lx_El_eq v 1).2.2]; decide +kernel) (q2.trans (by rw [hr0, Int.zero_add])) lx_jm2 u) hR2 (by rw [q1, x2']) (by rw [q2, hr0]; exact Int.zero_add _) had'
    unfold lx_mtU at hto
    rw [Bool.or_eq_true] at hto
    rcases hto with hto | hto
    · exact fin P0 k (Nat.le_refl _) hP0 hvk hk4 hto
    · rw [Bool.and_eq_true] at hto
      exact fin P (k + 1) (Nat.le_succ _) hP (by omega) (Nat.le_of_ble_eq_true hto.1) hto.2
  · cases hck
theorem lx_millQ (hK : lx_MKQ k v) (F : lx_Fr p R s m args meth c D tyc A sa) (hl : l.stackTraces = false) (hRf : 74 ≤ R.frames) (hRl : 4624 ≤ R.locals) (hsa : (z0, b, Ln, xs) ∈ sa.2) (hV : lx_V tyc ws r) (hvk : v ≤ k) (hk4 : k ≤ 4) (hR : ai_Rel D tyc A s sa ws 7 r ad lx_L [.inl (0, .ofNat 2)] (lx_G v 1) H locs ls st) (hi : 0 ≤ r 1 ∧ r 1 + 10 ≤ (Ln : Int)) (h5 : r 1 ≤ 5110) (h110 : r 73 = (k : Int)) (had : ad 0 = b)
    (kn : lx_Kn p l e R s m args below meth c Q D tyc A sa b (r 1)) : W p l e R s m args below meth c H locs 0 0 Q (F0 m 40 ls st) := by
  obtain ⟨T, B, C, P, hBx, hT, hck⟩ := hK (fun j => (xs (r 1 + j).toNat).toInt) (fun j => ⟨(ai_i32 _).1, (ai_i32 _).2⟩)
  rcases hck with hck | ⟨P0, hP0, hP, hck⟩
  · exact lx_millA hBx hT hck F hl hRf hRl hsa hV hvk hk4 hR hi h5 h110 had kn
  · exact lx_millU hBx hT hP0 hP hck F hl hRf hRl hsa hV hvk hk4 hR hi h5 h110 had kn
end LMA
