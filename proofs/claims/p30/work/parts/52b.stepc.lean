/-! THE PARSER: step: its pieces -/
noncomputable def sq_L : List ai_V := [pz_this, pz_u, pz_u]
noncomputable def sq_Lc : List ai_V := [pz_this, .inl (44, 0), pz_u]
noncomputable def sq_S : List ai_V := [.inl (44, 0)]
theorem sq_k280 : sq_lc [288] false 280 sq_L [] [] [] (sq_to [] 288 sq_L [] [(13, (7, 0))] []) = true := by decide +kernel
noncomputable def sq_cE (pc : Nat) (g : ai_F × List fn_L) : Bool := sq_has [(100, (7, 0), (44, 0), true)] g && sq_to [sq_b] pc sq_L sq_S [(44, (44, 0))] [] g.1
theorem sq_kE : sq_ck [89] false 81 sq_L [] [] [] (sq_cE 89) = true := by decide +kernel
theorem sq_kE1 : sq_lc [81] false 89 sq_L sq_S [sq_b] [(44, (97, 122)), (7, (0, 199))] (sq_to [] 81 sq_L [] [(7, (7, 1))] []) = true := by decide +kernel
theorem sq_kE2 : sq_lc [280] false 89 sq_L sq_S [sq_b] [(44, (ai_lo32, 96))] (sq_to [] 280 sq_L [] [(9, (0, 1))] []) = true := by decide +kernel
theorem sq_kE3 : sq_lc [280] false 89 sq_L sq_S [sq_b] [(44, (123, ai_hi32))] (sq_to [] 280 sq_L [] [(9, (0, 1))] []) = true := by decide +kernel
theorem sq_kF : sq_ck [136] false 128 sq_L [] [] [] (sq_cE 136) = true := by decide +kernel
theorem sq_kF1 : sq_lc [142] false 136 sq_L sq_S [sq_b] [(44, (48, 57))] (sq_to [] 142 sq_L [] [] []) = true := by decide +kernel
theorem sq_kF2 : sq_lc [280] false 136 sq_L sq_S [sq_b] [(44, (ai_lo32, 47))] (sq_to [] 280 sq_L [] [(9, (0, 2))] []) = true := by decide +kernel
theorem sq_kF3 : sq_lc [280] false 136 sq_L sq_S [sq_b] [(44, (58, ai_hi32))] (sq_to [] 280 sq_L [] [(9, (0, 2))] []) = true := by decide +kernel
noncomputable def sq_cF4 (g : ai_F × List fn_L) : Bool := sq_to [] 128 sq_L [] [(7, (7, 1))] [(11, (0, 0))] g.1
theorem sq_kF4 : sq_ck [128] false 142 sq_L [] [] [(7, (0, 199))] sq_cF4 = true := by decide +kernel
theorem sq_kD1 : sq_lc [81, 128, 280] false 75 sq_Lc sq_S [sq_b] [(44, (97, 122))] (sq_to [] 81 sq_L [] [] []) = true := by decide +kernel
theorem sq_kD2 : sq_lc [81, 128, 280] false 75 sq_Lc sq_S [sq_b] [(44, (48, 57))] (sq_to [] 128 sq_L [] [(11, (0, 0))] []) = true := by decide +kernel
noncomputable def sq_cD (f : ai_F) : Bool := sq_to [] 280 sq_L [] [(7, (7, 1)), (10, (44, 0)), (9, (0, 3))] [] f || sq_to [] 280 sq_L [] [(7, (7, 1)), (10, (44, 0)), (9, (0, 4))] [] f
theorem sq_kD3 : sq_lc [81, 128, 280] false 75 sq_Lc sq_S [sq_b] [(44, (ai_lo32, 47)), (7, (0, 199))] sq_cD = true := by decide +kernel
theorem sq_kD4 : sq_lc [81, 128, 280] false 75 sq_Lc sq_S [sq_b] [(44, (58, 96)), (7, (0, 199))] sq_cD = true := by decide +kernel
theorem sq_kD5 : sq_lc [81, 128, 280] false 75 sq_Lc sq_S [sq_b] [(44, (123, ai_hi32)), (7, (0, 199))] sq_cD = true := by decide +kernel
noncomputable def sq_cC (g : ai_F × List fn_L) : Bool := (sq_has [(100, (7, 0), (44, 0), true), (1, (44, 0), (0, -1), false)] g && sq_to [] 280 sq_L [] [(9, (0, 0))] [] g.1) || (sq_has [(100, (7, 0), (44, 0), true), (1, (44, 0), (0, -1), true)] g && sq_to [sq_b] 75 sq_Lc sq_S [(44, (44, 0))] [] g.1)
theorem sq_kC : sq_ck [75, 280] false 52 sq_L [] [] [] sq_cC = true := by decide +kernel
theorem sq_kB : sq_lc [52] false 39 sq_L [] [] [] (sq_to [] 52 sq_L [] [(12, (7, 0)), (10, (0, 0))] []) = true := by decide +kernel
noncomputable def sq_cA1 (g : ai_F × List fn_L) : Bool := sq_to [] 0 sq_L [] [(7, (7, 1))] [] g.1 || sq_to [] 39 sq_L [] [] [] g.1
theorem sq_kA1 : sq_ck [0, 39] true 0 sq_L [] [] [(7, (0, 199))] sq_cA1 = true := by decide +kernel
noncomputable def sq_cA2 (g : ai_F × List fn_L) : Bool := sq_to [] 39 sq_L [] [] [] g.1 || (sq_has [(100, (7, 0), (44, 0), true), (0, (44, 0), (0, 32), true)] g || sq_has [(100, (7, 0), (45, 0), true), (1, (45, 0), (0, 10), false)] g)
theorem sq_kA2 : sq_ck [0, 39] true 0 sq_L [] [] [] sq_cA2 = true := by decide +kernel
noncomputable def sq_ch (t : Nat) : Bool := [7, 9, 10, 11, 12, 13].elem t
noncomputable def sq_d (l : List (Nat × ai_X)) : Bool := (List.range 44).all (fun t => sq_ch t || l.all (fun q => !(Nat.beq q.1 t)))
theorem sq_d_ok {l : List (Nat × ai_X)} (h : sq_d l = true) {t : Nat} (ht : t < 44) (hc : sq_ch t = false) : l.all (fun q => !(Nat.beq q.1 t)) = true := by
  have := List.all_eq_true.mp h t (List.mem_range.mpr ht)
  rw [hc, Bool.false_or] at this
  exact this
noncomputable def sq_put : ai_H := (336, ai_tset 9 sq_h.2 285 (some (.inr (.inl (0, 200, ai_lo32, ai_hi32, [])))))
theorem sq_put_ok : sq_put = pz_h := fn_heq_ok (by decide +kernel)
noncomputable def sq_isT (c : Option ai_C) : Bool := match c with
  | some (.inr (.inl (ty, k, lo, hi, []))) => Nat.beq ty 0 && (Nat.beq k 200 && (ai_eq lo ai_lo32 && ai_eq hi ai_hi32))
  | _ => false
theorem sq_isT_ok {c : Option ai_C} (h : sq_isT c = true) : c = some (.inr (.inl (0, 200, ai_lo32, ai_hi32, []))) := by
  unfold sq_isT at h
  split at h
  · simp only [Bool.and_eq_true] at h
    obtain ⟨h1, h2, h3, h4⟩ := h
    rw [Nat.eq_of_beq_eq_true h1, Nat.eq_of_beq_eq_true h2, ai_eq_iff.mp h3, ai_eq_iff.mp h4]
  · cases h
theorem sq_tape : ai_cell pz_h 285 = some (.inr (.inl (0, 200, ai_lo32, ai_hi32, []))) ∧ (ai_cell sq_h 285).isNone = true := ⟨sq_isT_ok (by decide +kernel), by decide +kernel⟩
section SQ
variable {p : Program} {l : Launch} {e : Env} {s : State} {m : MethodId} {args : Array Value} {below : List Frame} {meth : Method} {c : Code} {Q : State → Prop}
variable {D : va_G} {tyc : Nat → ClassId} {A : Nat → Prop} {sa : ai_B} {ws : va_W} {r0 : Nat → Int} {ad0 : Nat → Nat} {fT : Nat → Int32}
noncomputable def sq_goal (p : Program) (l : Launch) (e : Env) (s : State) (m : MethodId) (args : Array Value) (below : List Frame) (meth : Method) (c : Code) (Q : State → Prop) (D : va_G) (tyc : Nat → ClassId) (A : Nat → Prop) (sa : ai_B) (ws : va_W) (r0 : Nat → Int) (ad0 : Nat → Nat) (L S : List ai_V) (nb : List (Int × Int)) (pc : Nat) (P : (Nat → Int) → Prop) : Prop :=
  ∀ (r : Nat → Int) (ad : Nat → Nat) (H : Heap) (locs : List Loc) (ls : Array Slot) (st : List Value), ai_Rel D tyc A s sa ws (ct_mt 188).2.2.1 r ad L S (sq_G nb) H locs ls st → (∀ t, 1 ≤ t → t < 44 → sq_ch t = false → r t = r0 t) → ai_ext 336 ad0 ad → P r → W p l e (lt_rm (39 + 1) 188) s m args below meth c H locs 0 0 Q (F0 m pc ls st)
theorem sq_on {nb : List (Int × Int)} {pc : Nat} {L' S' : List ai_V} {ch dc : List (Nat × ai_X)} {f : ai_F} {P : (Nat → Int) → Prop} {r r' : Nat → Int} {ad ad' : Nat → Nat} {H : Heap} {locs : List Loc} {ls : Array Slot} {st : List Value} (h : sq_to nb pc L' S' ch dc f = true) (hd : sq_d (ch ++ dc) = true) (hx : ai_ext 44 r r') (hun : ∀ t, 1 ≤ t → t < 44 → sq_ch t = false → r t = r0 t) (hax : ai_ext 336 ad0 ad) (hax' : ai_ext 336 ad ad') (goal : sq_goal p l e s m args below meth c Q D tyc A sa ws r0 ad0 L' S' nb pc P) (hR : ai_Rel D tyc A s sa ws (ct_mt 188).2.2.1 r' ad' f.2.1 f.2.2.1 f.2.2.2 H locs ls st)
    (hP : ∀ r2 : Nat → Int, (∀ t, 1 ≤ t → t < 44 → (ch ++ dc).all (fun q => !(Nat.beq q.1 t)) = true → r2 t = r' t) → (∀ q ∈ ch, r2 q.1 = ai_vx r' q.2) → P r2) : W p l e (lt_rm (39 + 1) 188) s m args below meth c H locs f.2.2.2.2.2.1 f.2.2.2.2.2.2 Q (F0 m f.1 ls st) := by
  obtain ⟨e1, e2, e3, r2, hR2, u1, u2⟩ := sq_to_ok h hR
  rw [e1, e2, e3]
  exact goal r2 ad' H locs ls st hR2 (fun t h1 h2 h3 => by rw [u1 t h1 h2 (sq_d_ok hd h2 h3), hx t h2]; exact hun t h1 h2 h3) (fun u hu => (hax' u hu).trans (hax u hu)) (hP r2 u1 u2)
/-- what stands at the place where it reads -/
noncomputable def sq_at (r0 : Nat → Int) (fT : Nat → Int32) (r : Nat → Int) : Int := sq_φ (r0 8) fT (r 7)
theorem sq_in {r : Nat → Int} (h : sq_at r0 fT r ≠ -1) (h8 : r0 8 ≤ 200) : r 7 ≤ 199 := by
  unfold sq_at sq_φ at h
  by_cases q : r 7 < r0 8
  · omega
  · rw [if_neg q] at h
    exact absurd rfl h
theorem sq_call {r r' : Nat → Int} {z8 : Int} {y : ai_X} {b : Bool} (h8 : z8 = r0 8) (h7 : ai_vx r' (7, 0) = r 7) (h : fn_m (sq_Φ z8 fT) r' (100, (7, 0), y, b)) : ai_vx r' y = sq_at r0 fT r := by
  have := fn_m_fun' (by omega) h
  rw [h7, h8] at this
  exact this
theorem sq_g280 {k280 : sq_goal p l e s m args below meth c Q D tyc A sa ws r0 ad0 sq_L [] [] 288 (fun r => pz_I r ∧ r0 7 ≤ r 12)} (F : ls_Fr p (lt_rm (39 + 1) 188) s m args meth c D tyc A sa 188) (hl : l.stackTraces = false) (hPw : ai_Pw tyc ws) :
    sq_goal p l e s m args below meth c Q D tyc A sa ws r0 ad0 sq_L [] [] 280 (fun r => r0 7 ≤ r 12 ∧ r 12 ≤ r 7 ∧ (r 9 ≠ 0 → r 12 < r 7)) := by
  intro r ad H locs ls st hR hun hax ⟨h1, h2, h3⟩
  have hb := pz_bd (nb := []) hR.env
  refine sq_seg sq_k280 F hl hPw hR (fun q hq => by cases hq) (fun f hf r' ad' x1 x2 H' locs' ls' st' hR' => ?_)
  refine sq_on hf (by decide +kernel) x1 hun hax x2 k280 hR' (fun r2 u1 u2 => ?_)
  have e13 : r2 13 = r' 7 + 0 := u2 _ List.mem_cons_self
  have e7 : r2 7 = r' 7 := u1 7 (by omega) (by omega) rfl
  have e12 : r2 12 = r' 12 := u1 12 (by omega) (by omega) rfl
  have e9 : r2 9 = r' 9 := u1 9 (by omega) (by omega) rfl
  have y7 := x1 7 (by show 7 < 44; omega)
  have y12 := x1 12 (by show 12 < 44; omega)
  have y9 := x1 9 (by show 9 < 44; omega)
  refine ⟨⟨by omega, by omega, by omega, by omega, fun q => ?_⟩, by omega⟩
  have := h3 (by omega)
  omega
theorem sq_gE (F : ls_Fr p (lt_rm (39 + 1) 188) s m args meth c D tyc A sa 188) (hl : l.stackTraces = false) (hPw : ai_Pw tyc ws) (hf : hg_ia tyc ws 285 200 fT) (h8 : r0 8 ≤ 200) (k : sq_goal p l e s m args below meth c Q D tyc A sa ws r0 ad0 sq_L [] [] 280 (fun r => r0 7 ≤ r 12 ∧ r 12 ≤ r 7 ∧ (r 9 ≠ 0 → r 12 < r 7))) :
    ∀ n : Nat, sq_goal p l e s m args below meth c Q D tyc A sa ws r0 ad0 sq_L [] [] 81 (fun r => r 7 + n = 200 ∧ r0 7 ≤ r 12 ∧ r 12 ≤ r 7 ∧ (r 12 < r 7 ∨ (97 ≤ sq_at r0 fT r ∧ sq_at r0 fT r ≤ 122))) := by
  intro n
  induction n with
  | zero =>
    intro r ad H locs ls st hR hun hax ⟨h1, h2, h3, h4⟩
    have e8 : r 8 = r0 8 := hun 8 (by omega) (by omega) rfl
    refine sq_run sq_kE F hf hR (fun q hq => by cases hq) (fun g hg r' ad' x1 x2 hlog H' locs' ls' st' hR' => ?_)
    unfold sq_cE at hg
    rw [Bool.and_eq_true] at hg
    have y7 : r' 7 = r 7 := x1 7 (by show 7 < 44; omega)
    have c44 := sq_call (r0 := r0) (r := r) (fT := fT) e8 (by show r' 7 + 0 = r 7; omega) (hlog _ (sq_has_ok hg.1 _ List.mem_cons_self))
    have no : sq_at r0 fT r = -1 := by
      by_cases q : sq_at r0 fT r = -1
      · exact q
      · have := sq_in q h8
        omega
    refine sq_on hg.2 (by decide +kernel) x1 hun hax x2 (P := fun r2 => r2 44 = -1 ∧ r0 7 ≤ r2 12 ∧ r2 12 ≤ r2 7 ∧ r2 12 < r2 7) ?_ hR' (fun r2 u1 u2 => ?_)
    · intro r3 ad3 H3 locs3 ls3 st3 hR3 hun3 hax3 ⟨q1, q2, q3, q4⟩
      refine sq_seg sq_kE2 F hl hPw hR3 (fun q hq => ?_) (fun f hf r' ad' x1 x2 H' locs' ls' st' hR' => ?_)
      · rcases List.mem_cons.mp hq with rfl | hq
        · exact ⟨by show 44 < 45; omega, by show ai_lo32 ≤ r3 44; rw [q1]; unfold ai_lo32; omega, by show r3 44 ≤ (96 : Int); omega⟩
        · cases hq
      · have x1 : ai_ext 45 r3 r' := x1
        refine sq_on hf (by decide +kernel) (x1.mono (by omega)) hun3 hax3 x2 k hR' (fun r2 u1 u2 => ?_)
        have e7 : r2 7 = r' 7 := u1 7 (by omega) (by omega) rfl
        have e12 : r2 12 = r' 12 := u1 12 (by omega) (by omega) rfl
        have y7 := x1 7 (by omega)
        have y12 := x1 12 (by omega)
        exact ⟨by omega, by omega, fun _ => by omega⟩
    · have e44 : r2 44 = ai_vx r' (44, 0) := u2 _ List.mem_cons_self
      have e7 : r2 7 = r' 7 := u1 7 (by omega) (by omega) rfl
      have e12 : r2 12 = r' 12 := u1 12 (by omega) (by omega) rfl
      have y12 := x1 12 (by show 12 < 44; omega)
      exact ⟨by omega, by omega, by omega, by omega⟩
  | succ n ih =>
    intro r ad H locs ls st hR hun hax ⟨h1, h2, h3, h4⟩
    have e8 : r 8 = r0 8 := hun 8 (by omega) (by omega) rfl
    refine sq_run sq_kE F hf hR (fun q hq => by cases hq) (fun g hg r' ad' x1 x2 hlog H' locs' ls' st' hR' => ?_)
    unfold sq_cE at hg
    rw [Bool.and_eq_true] at hg
    have y7 : r' 7 = r 7 := x1 7 (by show 7 < 44; omega)
    have c44 := sq_call (r0 := r0) (r := r) (fT := fT) e8 (by show r' 7 + 0 = r 7; omega) (hlog _ (sq_has_ok hg.1 _ List.mem_cons_self))
    refine sq_on hg.2 (by decide +kernel) x1 hun hax x2 (P := fun r2 => r2 44 = sq_at r0 fT r ∧ r2 7 = r 7 ∧ r2 12 = r 12) ?_ hR' (fun r2 u1 u2 => ?_)
    · intro r3 ad3 H3 locs3 ls3 st3 hR3 hun3 hax3 ⟨q1, q2, q3⟩
      have hi : ai_lo32 ≤ r3 44 ∧ r3 44 ≤ ai_hi32 := by
        have := hR3.env.2.2.2.1 (44, ai_lo32, ai_hi32) (by decide +kernel)
        exact this.2
      have out : ∀ b : Int × Int, sq_lc [280] false 89 sq_L sq_S [sq_b] [(44, b)] (sq_to [] 280 sq_L [] [(9, (0, 1))] []) = true → b.1 ≤ r3 44 → r3 44 ≤ b.2 → r 12 < r 7 → W p l e (lt_rm (39 + 1) 188) s m args below meth c H3 locs3 0 0 Q (F0 m 89 ls3 st3) := fun b hb k1 k2 hlt => by
        refine sq_seg hb F hl hPw hR3 (fun q hq => ?_) (fun f hf r' ad' x1 x2 H' locs' ls' st' hR' => ?_)
        · rcases List.mem_cons.mp hq with rfl | hq
          · exact ⟨by show 44 < 45; omega, k1, k2⟩
          · cases hq
        · have x1 : ai_ext 45 r3 r' := x1
          refine sq_on hf (by decide +kernel) (x1.mono (by omega)) hun3 hax3 x2 k hR' (fun r2 u1 u2 => ?_)
          have e7 : r2 7 = r' 7 := u1 7 (by omega) (by omega) rfl
          have e12 : r2 12 = r' 12 := u1 12 (by omega) (by omega) rfl
          have y7 := x1 7 (by omega)
          have y12 := x1 12 (by omega)
          exact ⟨by omega, by omega, fun _ => by omega⟩
      by_cases l1 : r3 44 ≤ 96
      · exact out _ sq_kE2 hi.1 l1 (by rcases h4 with h4 | h4 <;> omega)
      · by_cases l2 : 123 ≤ r3 44
        · exact out _ sq_kE3 l2 hi.2 (by rcases h4 with h4 | h4 <;> omega)
        · refine sq_seg sq_kE1 F hl hPw hR3 (fun q hq => ?_) (fun f hf r' ad' x1 x2 H' locs' ls' st' hR' => ?_)
          · have hb := pz_bd (nb := [sq_b]) hR3.env
            rcases List.mem_cons.mp hq with rfl | hq
            · exact ⟨by show 44 < 45; omega, by show (97 : Int) ≤ r3 44; omega, by show r3 44 ≤ (122 : Int); omega⟩
            · rcases List.mem_cons.mp hq with rfl | hq
              · exact ⟨by show 7 < 45; omega, by show (0 : Int) ≤ r3 7; omega, by show r3 7 ≤ (199 : Int); omega⟩
              · cases hq
          · have x1 : ai_ext 45 r3 r' := x1
            refine sq_on hf (by decide +kernel) (x1.mono (by omega)) hun3 hax3 x2 ih hR' (fun r2 u1 u2 => ?_)
            have e7 : r2 7 = r' 7 + 1 := u2 _ List.mem_cons_self
            have e12 : r2 12 = r' 12 := u1 12 (by omega) (by omega) rfl
            have y7 := x1 7 (by omega)
            have y12 := x1 12 (by omega)
            exact ⟨by omega, by omega, by omega, Or.inl (by omega)⟩
    · have e44 : r2 44 = ai_vx r' (44, 0) := u2 _ List.mem_cons_self
      have e7 : r2 7 = r' 7 := u1 7 (by omega) (by omega) rfl
      have e12 : r2 12 = r' 12 := u1 12 (by omega) (by omega) rfl
      have y12 := x1 12 (by show 12 < 44; omega)
      exact ⟨by omega, by omega, by omega⟩
end SQ
