/-! THE PARSER: step: digits, the beginning, its contract -/
section SQ
variable {p : Program} {l : Launch} {e : Env} {s : State} {m : MethodId} {args : Array Value} {below : List Frame} {meth : Method} {c : Code} {Q : State → Prop}
variable {D : va_G} {tyc : Nat → ClassId} {A : Nat → Prop} {sa : ai_B} {ws : va_W} {r0 : Nat → Int} {ad0 : Nat → Nat} {fT : Nat → Int32}
theorem sq_gF (F : ls_Fr p (lt_rm (39 + 1) 188) s m args meth c D tyc A sa 188) (hl : l.stackTraces = false) (hPw : ai_Pw tyc ws) (hf : hg_ia tyc ws 285 200 fT) (h8 : r0 8 ≤ 200) (k : sq_goal p l e s m args below meth c Q D tyc A sa ws r0 ad0 sq_L [] [] 280 (fun r => r0 7 ≤ r 12 ∧ r 12 ≤ r 7 ∧ (r 9 ≠ 0 → r 12 < r 7))) :
    ∀ n : Nat, sq_goal p l e s m args below meth c Q D tyc A sa ws r0 ad0 sq_L [] [] 128 (fun r => r 7 + n = 200 ∧ r0 7 ≤ r 12 ∧ r 12 ≤ r 7 ∧ (r 12 < r 7 ∨ (48 ≤ sq_at r0 fT r ∧ sq_at r0 fT r ≤ 57))) := by
  intro n
  induction n with
  | zero =>
    intro r ad H locs ls st hR hun hax ⟨h1, h2, h3, h4⟩
    have e8 : r 8 = r0 8 := hun 8 (by omega) (by omega) rfl
    refine sq_run sq_kF F hf hR (fun q hq => by cases hq) (fun g hg r' ad' x1 x2 hlog H' locs' ls' st' hR' => ?_)
    unfold sq_cE at hg
    rw [Bool.and_eq_true] at hg
    have y7 : r' 7 = r 7 := x1 7 (by show 7 < 44; omega)
    have c44 := sq_call (r0 := r0) (r := r) (fT := fT) e8 (by show r' 7 + 0 = r 7; omega) (hlog _ (sq_has_ok hg.1 _ List.mem_cons_self))
    have no : sq_at r0 fT r = -1 := by
      by_cases q : sq_at r0 fT r = -1
      · exact q
      · have := sq_in q h8
        omega
    refine sq_on hg.2 (by decide +kernel) x1 hun hax x2 (P := fun r2 => r2 44 = -1 ∧ r0 7 ≤ r2 12 ∧ r2 12 ≤ r2 7 ∧ r2 12 < r2 7) ?_ hR' (fun r2 u1 u2 => ?_)
    · intro r3 ad3 H3 locs3 ls3 st3 hR3 hun3 hax3 ⟨q1, q2, q3, q4⟩
      refine sq_seg sq_kF2 F hl hPw hR3 (fun q hq => ?_) (fun f hf r' ad' x1 x2 H' locs' ls' st' hR' => ?_)
      · rcases List.mem_cons.mp hq with rfl | hq
        · exact ⟨by show 44 < 45; omega, by show ai_lo32 ≤ r3 44; rw [q1]; unfold ai_lo32; omega, by show r3 44 ≤ (47 : Int); omega⟩
        · cases hq
      · have x1 : ai_ext 45 r3 r' := x1
        refine sq_on hf (by decide +kernel) (x1.mono (by omega)) hun3 hax3 x2 k hR' (fun r2 u1 u2 => ?_)
        have e7 : r2 7 = r' 7 := u1 7 (by omega) (by omega) rfl
        have e12 : r2 12 = r' 12 := u1 12 (by omega) (by omega) rfl
        have y7 := x1 7 (by omega)
        have y12 := x1 12 (by omega)
        exact ⟨by omega, by omega, fun _ => by omega⟩
    · have e44 : r2 44 = ai_vx r' (44, 0) := u2 _ List.mem_cons_self
      have e7 : r2 7 = r' 7 := u1 7 (by omega) (by omega) rfl
      have e12 : r2 12 = r' 12 := u1 12 (by omega) (by omega) rfl
      have y12 := x1 12 (by show 12 < 44; omega)
      exact ⟨by omega, by omega, by omega, by omega⟩
  | succ n ih =>
    intro r ad H locs ls st hR hun hax ⟨h1, h2, h3, h4⟩
    have e8 : r 8 = r0 8 := hun 8 (by omega) (by omega) rfl
    refine sq_run sq_kF F hf hR (fun q hq => by cases hq) (fun g hg r' ad' x1 x2 hlog H' locs' ls' st' hR' => ?_)
    unfold sq_cE at hg
    rw [Bool.and_eq_true] at hg
    have y7 : r' 7 = r 7 := x1 7 (by show 7 < 44; omega)
    have c44 := sq_call (r0 := r0) (r := r) (fT := fT) e8 (by show r' 7 + 0 = r 7; omega) (hlog _ (sq_has_ok hg.1 _ List.mem_cons_self))
    refine sq_on hg.2 (by decide +kernel) x1 hun hax x2 (P := fun r2 => r2 44 = sq_at r0 fT r ∧ r2 7 = r 7 ∧ r2 12 = r 12) ?_ hR' (fun r2 u1 u2 => ?_)
    · intro r3 ad3 H3 locs3 ls3 st3 hR3 hun3 hax3 ⟨q1, q2, q3⟩
      have hi : ai_lo32 ≤ r3 44 ∧ r3 44 ≤ ai_hi32 := by
        have := hR3.env.2.2.2.1 (44, ai_lo32, ai_hi32) (by decide +kernel)
        exact this.2
      have out : ∀ b : Int × Int, sq_lc [280] false 136 sq_L sq_S [sq_b] [(44, b)] (sq_to [] 280 sq_L [] [(9, (0, 2))] []) = true → b.1 ≤ r3 44 → r3 44 ≤ b.2 → r 12 < r 7 → W p l e (lt_rm (39 + 1) 188) s m args below meth c H3 locs3 0 0 Q (F0 m 136 ls3 st3) := fun b hb k1 k2 hlt => by
        refine sq_seg hb F hl hPw hR3 (fun q hq => ?_) (fun f hf r' ad' x1 x2 H' locs' ls' st' hR' => ?_)
        · rcases List.mem_cons.mp hq with rfl | hq
          · exact ⟨by show 44 < 45; omega, k1, k2⟩
          · cases hq
        · have x1 : ai_ext 45 r3 r' := x1
          refine sq_on hf (by decide +kernel) (x1.mono (by omega)) hun3 hax3 x2 k hR' (fun r2 u1 u2 => ?_)
          have e7 : r2 7 = r' 7 := u1 7 (by omega) (by omega) rfl
          have e12 : r2 12 = r' 12 := u1 12 (by omega) (by omega) rfl
          have y7 := x1 7 (by omega)
          have y12 := x1 12 (by omega)
          exact ⟨by omega, by omega, fun _ => by omega⟩
      by_cases l1 : r3 44 ≤ 47
      · exact out _ sq_kF2 hi.1 l1 (by rcases h4 with h4 | h4 <;> omega)
      · by_cases l2 : 58 ≤ r3 44
        · exact out _ sq_kF3 l2 hi.2 (by rcases h4 with h4 | h4 <;> omega)
        · refine sq_seg sq_kF1 F hl hPw hR3 (fun q hq => ?_) (fun f hf' r' ad' x1 x2 H' locs' ls' st' hR' => ?_)
          · rcases List.mem_cons.mp hq with rfl | hq
            · exact ⟨by show 44 < 45; omega, by show (48 : Int) ≤ r3 44; omega, by show r3 44 ≤ (57 : Int); omega⟩
            · cases hq
          · have x1 : ai_ext 45 r3 r' := x1
            refine sq_on hf' (by decide +kernel) (x1.mono (by omega)) hun3 hax3 x2 (P := fun r2 => r2 7 = r 7 ∧ r2 12 = r 12) ?_ hR' (fun r2 u1 u2 => ?_)
            · intro r5 ad5 H5 locs5 ls5 st5 hR5 hun5 hax5 ⟨v1, v2⟩
              refine sq_run sq_kF4 F hf hR5 (fun q hq => ?_) (fun g hg r' ad' x1 x2 hlog H' locs' ls' st' hR' => ?_)
              · have hb := pz_bd (nb := []) hR5.env
                rcases List.mem_cons.mp hq with rfl | hq
                · exact ⟨by show 7 < 44; omega, by show (0 : Int) ≤ r5 7; omega, by show r5 7 ≤ (199 : Int); omega⟩
                · cases hq
              · have x1 : ai_ext 44 r5 r' := x1
                refine sq_on hg (by decide +kernel) x1 hun5 hax5 x2 ih hR' (fun r2 u1 u2 => ?_)
                have e7 : r2 7 = r' 7 + 1 := u2 _ List.mem_cons_self
                have e12 : r2 12 = r' 12 := u1 12 (by omega) (by omega) rfl
                have y7 := x1 7 (by omega)
                have y12 := x1 12 (by omega)
                exact ⟨by omega, by omega, by omega, Or.inl (by omega)⟩
            · have e7 : r2 7 = r' 7 := u1 7 (by omega) (by omega) rfl
              have e12 : r2 12 = r' 12 := u1 12 (by omega) (by omega) rfl
              have y7 := x1 7 (by omega)
              have y12 := x1 12 (by omega)
              exact ⟨by omega, by omega⟩
    · have e44 : r2 44 = ai_vx r' (44, 0) := u2 _ List.mem_cons_self
      have e7 : r2 7 = r' 7 := u1 7 (by omega) (by omega) rfl
      have e12 : r2 12 = r' 12 := u1 12 (by omega) (by omega) rfl
      have y12 := x1 12 (by show 12 < 44; omega)
      exact ⟨by omega, by omega, by omega⟩
theorem sq_gD (F : ls_Fr p (lt_rm (39 + 1) 188) s m args meth c D tyc A sa 188) (hl : l.stackTraces = false) (hPw : ai_Pw tyc ws) (hf : hg_ia tyc ws 285 200 fT) (h8 : r0 8 ≤ 200) (k : sq_goal p l e s m args below meth c Q D tyc A sa ws r0 ad0 sq_L [] [] 280 (fun r => r0 7 ≤ r 12 ∧ r 12 ≤ r 7 ∧ (r 9 ≠ 0 → r 12 < r 7))) :
    sq_goal p l e s m args below meth c Q D tyc A sa ws r0 ad0 sq_Lc sq_S [sq_b] 75 (fun r => r0 7 ≤ r 12 ∧ r 12 = r 7 ∧ r 44 = sq_at r0 fT r ∧ r 44 ≠ -1) := by
  intro r ad H locs ls st hR hun hax ⟨h1, h2, h3, h4⟩
  have hb := pz_bd (nb := [sq_b]) hR.env
  have hi : ai_lo32 ≤ r 44 ∧ r 44 ≤ ai_hi32 := (hR.env.2.2.2.1 (44, ai_lo32, ai_hi32) (by decide +kernel)).2
  have h7 : r 7 ≤ 199 := sq_in (r0 := r0) (fT := fT) (by rw [← h3]; exact h4) h8
  have other : ∀ b : Int × Int, sq_lc [81, 128, 280] false 75 sq_Lc sq_S [sq_b] [(44, b), (7, (0, 199))] sq_cD = true → b.1 ≤ r 44 → r 44 ≤ b.2 → W p l e (lt_rm (39 + 1) 188) s m args below meth c H locs 0 0 Q (F0 m 75 ls st) := fun b hb' k1 k2 => by
    refine sq_seg hb' F hl hPw hR (fun q hq => ?_) (fun f hf' r' ad' x1 x2 H' locs' ls' st' hR' => ?_)
    · rcases List.mem_cons.mp hq with rfl | hq
      · exact ⟨by show 44 < 45; omega, k1, k2⟩
      · rcases List.mem_cons.mp hq with rfl | hq
        · exact ⟨by show 7 < 45; omega, by show (0 : Int) ≤ r 7; omega, by show r 7 ≤ (199 : Int); omega⟩
        · cases hq
    · have x1 : ai_ext 45 r r' := x1
      have y7 := x1 7 (by omega)
      have y12 := x1 12 (by omega)
      unfold sq_cD at hf'
      rw [Bool.or_eq_true] at hf'
      rcases hf' with hf' | hf'
      · refine sq_on hf' (by decide +kernel) (x1.mono (by omega)) hun hax x2 k hR' (fun r2 u1 u2 => ?_)
        have e7 : r2 7 = r' 7 + 1 := u2 _ List.mem_cons_self
        have e12 : r2 12 = r' 12 := u1 12 (by omega) (by omega) rfl
        exact ⟨by omega, by omega, fun _ => by omega⟩
      · refine sq_on hf' (by decide +kernel) (x1.mono (by omega)) hun hax x2 k hR' (fun r2 u1 u2 => ?_)
        have e7 : r2 7 = r' 7 + 1 := u2 _ List.mem_cons_self
        have e12 : r2 12 = r' 12 := u1 12 (by omega) (by omega) rfl
        exact ⟨by omega, by omega, fun _ => by omega⟩
  have hn : ∃ n : Nat, r 7 + n = 200 := ⟨(200 - r 7).toNat, by omega⟩
  obtain ⟨n, hn⟩ := hn
  by_cases l1 : r 44 ≤ 47
  · exact other _ sq_kD3 hi.1 l1
  · by_cases l2 : r 44 ≤ 57
    · refine sq_seg sq_kD2 F hl hPw hR (fun q hq => ?_) (fun f hf' r' ad' x1 x2 H' locs' ls' st' hR' => ?_)
      · rcases List.mem_cons.mp hq with rfl | hq
        · exact ⟨by show 44 < 45; omega, by show (48 : Int) ≤ r 44; omega, by show r 44 ≤ (57 : Int); omega⟩
        · cases hq
      · have x1 : ai_ext 45 r r' := x1
        refine sq_on hf' (by decide +kernel) (x1.mono (by omega)) hun hax x2 (sq_gF F hl hPw hf h8 k n) hR' (fun r2 u1 u2 => ?_)
        have e7 : r2 7 = r' 7 := u1 7 (by omega) (by omega) rfl
        have e12 : r2 12 = r' 12 := u1 12 (by omega) (by omega) rfl
        have y7 := x1 7 (by omega)
        have y12 := x1 12 (by omega)
        have ea : sq_at r0 fT r2 = r 44 := by
          rw [h3]
          unfold sq_at
          rw [show r2 7 = r 7 by omega]
        refine ⟨by omega, by omega, by omega, Or.inr ?_⟩
        rw [ea]
        omega
    · by_cases l3 : r 44 ≤ 96
      · exact other _ sq_kD4 (by show (58 : Int) ≤ r 44; omega) l3
      · by_cases l4 : r 44 ≤ 122
        · refine sq_seg sq_kD1 F hl hPw hR (fun q hq => ?_) (fun f hf' r' ad' x1 x2 H' locs' ls' st' hR' => ?_)
          · rcases List.mem_cons.mp hq with rfl | hq
            · exact ⟨by show 44 < 45; omega, by show (97 : Int) ≤ r 44; omega, by show r 44 ≤ (122 : Int); omega⟩
            · cases hq
          · have x1 : ai_ext 45 r r' := x1
            refine sq_on hf' (by decide +kernel) (x1.mono (by omega)) hun hax x2 (sq_gE F hl hPw hf h8 k n) hR' (fun r2 u1 u2 => ?_)
            have e7 : r2 7 = r' 7 := u1 7 (by omega) (by omega) rfl
            have e12 : r2 12 = r' 12 := u1 12 (by omega) (by omega) rfl
            have y7 := x1 7 (by omega)
            have y12 := x1 12 (by omega)
            have ea : sq_at r0 fT r2 = r 44 := by
              rw [h3]
              unfold sq_at
              rw [show r2 7 = r 7 by omega]
            refine ⟨by omega, by omega, by omega, Or.inr ?_⟩
            rw [ea]
            omega
        · exact other _ sq_kD5 (by show (123 : Int) ≤ r 44; omega) hi.2
theorem sq_gC (F : ls_Fr p (lt_rm (39 + 1) 188) s m args meth c D tyc A sa 188) (hl : l.stackTraces = false) (hPw : ai_Pw tyc ws) (hf : hg_ia tyc ws 285 200 fT) (h8 : r0 8 ≤ 200) (k : sq_goal p l e s m args below meth c Q D tyc A sa ws r0 ad0 sq_L [] [] 280 (fun r => r0 7 ≤ r 12 ∧ r 12 ≤ r 7 ∧ (r 9 ≠ 0 → r 12 < r 7))) :
    sq_goal p l e s m args below meth c Q D tyc A sa ws r0 ad0 sq_L [] [] 52 (fun r => r0 7 ≤ r 12 ∧ r 12 = r 7) := by
  intro r ad H locs ls st hR hun hax ⟨h1, h2⟩
  have e8 : r 8 = r0 8 := hun 8 (by omega) (by omega) rfl
  refine sq_run sq_kC F hf hR (fun q hq => by cases hq) (fun g hg r' ad' x1 x2 hlog H' locs' ls' st' hR' => ?_)
  have x1 : ai_ext 44 r r' := x1
  have y7 : r' 7 = r 7 := x1 7 (by omega)
  have y12 := x1 12 (by omega)
  unfold sq_cC at hg
  simp only [Bool.or_eq_true, Bool.and_eq_true] at hg
  rcases hg with ⟨hh, hg⟩ | ⟨hh, hg⟩
  · refine sq_on hg (by decide +kernel) x1 hun hax x2 k hR' (fun r2 u1 u2 => ?_)
    have e9 : r2 9 = r' 0 + 0 := u2 _ List.mem_cons_self
    have e7 : r2 7 = r' 7 := u1 7 (by omega) (by omega) rfl
    have e12 : r2 12 = r' 12 := u1 12 (by omega) (by omega) rfl
    have z := hR'.env.1
    exact ⟨by omega, by omega, fun q => absurd (by omega) q⟩
  · have c44 := sq_call (r0 := r0) (r := r) (fT := fT) e8 (by show r' 7 + 0 = r 7; omega) (hlog _ (sq_has_ok hh _ List.mem_cons_self))
    have n1 : ai_vx r' (44, 0) ≠ ai_vx r' (0, -1) := (fn_m_cmp' (by omega) (hlog _ (sq_has_ok hh _ (List.mem_cons_of_mem _ List.mem_cons_self)))).mp rfl
    refine sq_on hg (by decide +kernel) x1 hun hax x2 (sq_gD F hl hPw hf h8 k) hR' (fun r2 u1 u2 => ?_)
    have e44 : r2 44 = ai_vx r' (44, 0) := u2 _ List.mem_cons_self
    have e7 : r2 7 = r' 7 := u1 7 (by omega) (by omega) rfl
    have e12 : r2 12 = r' 12 := u1 12 (by omega) (by omega) rfl
    have m1 : ai_vx r' (0, -1) = -1 := by
      show r' 0 + -1 = -1
      rw [hR'.env.1]
      rfl
    have ea : sq_at r0 fT r2 = sq_at r0 fT r := by
      unfold sq_at
      rw [show r2 7 = r 7 by omega]
    refine ⟨by omega, by omega, by rw [ea]; omega, by omega⟩
theorem sq_gB (F : ls_Fr p (lt_rm (39 + 1) 188) s m args meth c D tyc A sa 188) (hl : l.stackTraces = false) (hPw : ai_Pw tyc ws) (hf : hg_ia tyc ws 285 200 fT) (h8 : r0 8 ≤ 200) (k : sq_goal p l e s m args below meth c Q D tyc A sa ws r0 ad0 sq_L [] [] 280 (fun r => r0 7 ≤ r 12 ∧ r 12 ≤ r 7 ∧ (r 9 ≠ 0 → r 12 < r 7))) :
    sq_goal p l e s m args below meth c Q D tyc A sa ws r0 ad0 sq_L [] [] 39 (fun r => r0 7 ≤ r 7) := by
  intro r ad H locs ls st hR hun hax h1
  refine sq_seg sq_kB F hl hPw hR (fun q hq => by cases hq) (fun f hf' r' ad' x1 x2 H' locs' ls' st' hR' => ?_)
  have x1 : ai_ext 44 r r' := x1
  have y7 : r' 7 = r 7 := x1 7 (by omega)
  refine sq_on hf' (by decide +kernel) x1 hun hax x2 (sq_gC F hl hPw hf h8 k) hR' (fun r2 u1 u2 => ?_)
  have e12 : r2 12 = r' 7 + 0 := u2 _ List.mem_cons_self
  have e7 : r2 7 = r' 7 := u1 7 (by omega) (by omega) rfl
  have h1 : r0 7 ≤ r 7 := h1
  exact ⟨by omega, by omega⟩
theorem sq_gA (F : ls_Fr p (lt_rm (39 + 1) 188) s m args meth c D tyc A sa 188) (hl : l.stackTraces = false) (hPw : ai_Pw tyc ws) (hf : hg_ia tyc ws 285 200 fT) (h8 : r0 8 ≤ 200) (k : sq_goal p l e s m args below meth c Q D tyc A sa ws r0 ad0 sq_L [] [] 280 (fun r => r0 7 ≤ r 12 ∧ r 12 ≤ r 7 ∧ (r 9 ≠ 0 → r 12 < r 7))) :
    ∀ n : Nat, sq_goal p l e s m args below meth c Q D tyc A sa ws r0 ad0 sq_L [] [] 0 (fun r => r0 7 ≤ r 7 ∧ r 7 + n = 200) := by
  intro n
  induction n with
  | zero =>
    intro r ad H locs ls st hR hun hax ⟨h1, h2⟩
    have e8 : r 8 = r0 8 := hun 8 (by omega) (by omega) rfl
    have no : sq_at r0 fT r = -1 := by
      by_cases q : sq_at r0 fT r = -1
      · exact q
      · have := sq_in q h8
        omega
    refine sq_run sq_kA2 F hf hR (fun q hq => by cases hq) (fun g hg r' ad' x1 x2 hlog H' locs' ls' st' hR' => ?_)
    have x1 : ai_ext 44 r r' := x1
    have y7 : r' 7 = r 7 := x1 7 (by omega)
    have z0 := hR'.env.1
    unfold sq_cA2 at hg
    simp only [Bool.or_eq_true] at hg
    rcases hg with hg | hh | hh
    · refine sq_on hg (by decide +kernel) x1 hun hax x2 (sq_gB F hl hPw hf h8 k) hR' (fun r2 u1 u2 => ?_)
      have e7 : r2 7 = r' 7 := u1 7 (by omega) (by omega) rfl
      omega
    · exfalso
      have c44 := sq_call (r0 := r0) (r := r) (fT := fT) e8 (by show r' 7 + 0 = r 7; omega) (hlog _ (sq_has_ok hh _ List.mem_cons_self))
      have n1 : ai_vx r' (44, 0) = ai_vx r' (0, 32) := (fn_m_cmp' (by omega) (hlog _ (sq_has_ok hh _ (List.mem_cons_of_mem _ List.mem_cons_self)))).mp rfl
      have m1 : ai_vx r' (0, 32) = r' 0 + 32 := rfl
      omega
    · exfalso
      have c45 := sq_call (r0 := r0) (r := r) (fT := fT) e8 (by show r' 7 + 0 = r 7; omega) (hlog _ (sq_has_ok hh _ List.mem_cons_self))
      have n1 : ¬ ai_vx r' (45, 0) ≠ ai_vx r' (0, 10) := fun q => by
        have := (fn_m_cmp' (by omega) (hlog _ (sq_has_ok hh _ (List.mem_cons_of_mem _ List.mem_cons_self)))).mpr q
        cases this
      have m1 : ai_vx r' (0, 10) = r' 0 + 10 := rfl
      omega
  | succ n ih =>
    intro r ad H locs ls st hR hun hax ⟨h1, h2⟩
    have hb := pz_bd (nb := []) hR.env
    refine sq_run sq_kA1 F hf hR (fun q hq => ?_) (fun g hg r' ad' x1 x2 hlog H' locs' ls' st' hR' => ?_)
    · rcases List.mem_cons.mp hq with rfl | hq
      · exact ⟨by show 7 < 44; omega, by show (0 : Int) ≤ r 7; omega, by show r 7 ≤ (199 : Int); omega⟩
      · cases hq
    · have x1 : ai_ext 44 r r' := x1
      have y7 : r' 7 = r 7 := x1 7 (by omega)
      unfold sq_cA1 at hg
      rw [Bool.or_eq_true] at hg
      rcases hg with hg | hg
      · refine sq_on hg (by decide +kernel) x1 hun hax x2 ih hR' (fun r2 u1 u2 => ?_)
        have e7 : r2 7 = r' 7 + 1 := u2 _ List.mem_cons_self
        exact ⟨by omega, by omega⟩
      · refine sq_on hg (by decide +kernel) x1 hun hax x2 (sq_gB F hl hPw hf h8 k) hR' (fun r2 u1 u2 => ?_)
        have e7 : r2 7 = r' 7 := u1 7 (by omega) (by omega) rfl
        show r0 7 ≤ r2 7
        omega
end SQ
noncomputable def sq_Post : pz_Post := fun r g r' g' => g' = g ∧ (∀ t, 1 ≤ t → t < 44 → sq_ch t = false → r' t = r t) ∧ pz_I r' ∧ r 7 ≤ r' 12
theorem pz_step : pz_Ct 40 188 false [] (fun _ _ => True) sq_Post := by
  obtain ⟨N1, N2, N3, N4, N5⟩ := pz_N
  obtain ⟨S1, S2, S3, S4, S5, S6, S7, S8, S9, S10⟩ := sq_N
  obtain ⟨o1, o2, o3, o4⟩ := pz_offs
  refine pz_new (n := 39) (nb := []) (aa := [pz_this]) (L0 := sq_L) (fun _ => True) em_k.2.1 (by rw [S6]; rfl) (fun r ad hE => pz_in0 (tail := []) rfl r ad hE) (fun l D tyc A sa hl ws g r r1 ad hW _ hx _ p e s m args below meth c ls F hret hR => ?_)
  have hb := pz_bd (nb := []) hR.env
  obtain ⟨ws1, fT, i1, i2, i3, i4, hR1⟩ := hg_in (q := 285) (n := 200) (lo := ai_lo32) (hi := ai_hi32) hR (by omega) (by show 285 < pz_h.1; rw [N4]; omega) sq_tape.1
  have hR1 : ai_Rel D tyc A s sa ws1 (ct_mt 188).2.2.1 r1 ad sq_L [] (sq_G []) s.heap [] ls [] := hR1
  have i3 : ∀ k, k + 16 < 336 → ai_cell pz_h (k + 16) = none → ws1[k]? = ws[k]? := fun k h1 h2 => i3 k (by show k + 16 < pz_h.1; rw [N4]; exact h1) h2
  have hPw1 : ai_Pw tyc ws1 := hW.2.same (i3 270 (by omega) (Option.isNone_iff_eq_none.mp o1)) (i3 272 (by omega) (Option.isNone_iff_eq_none.mp o2)) (i3 273 (by omega) (Option.isNone_iff_eq_none.mp o3)) (i3 274 (by omega) (Option.isNone_iff_eq_none.mp o4))
  refine sq_gA (r0 := r1) (ad0 := ad) (fT := fT) F hl hPw1 i1 hb.2.1.2 (sq_g280 (k280 := ?_) F hl hPw1) (200 - r1 7).toNat r1 ad s.heap [] ls [] hR1 (fun _ _ _ _ => rfl) ai_ext.rfl' ⟨Int.le_refl _, by omega⟩
  intro r2 ad2 H2 locs2 ls2 st2 hR2 hun hax ⟨hI, hle⟩
  have hR3 := hg_out (q := 285) (n := 200) (lo := ai_lo32) (hi := ai_hi32) (f := fT) (ws0 := ws) hR2 (by omega) (by show 285 < sq_h.1; rw [S1]; omega) (Option.isNone_iff_eq_none.mp sq_tape.2) i1 i2 (fun k h1 h2 h3 => i3 k (by
    have h1 : k + 16 < sq_h.1 := h1
    rw [S1] at h1
    exact h1) (by
    have h1 : k + 16 < sq_h.1 := h1
    rw [S1] at h1
    have h3 : ai_cell ((pz_G []).2.1.1, ai_tset 9 (pz_G []).2.1.2 285 none) (k + 16) = none := h3
    rw [hg_cell (by omega) (by omega), if_neg h2] at h3
    exact h3))
  have hR3 : ai_Rel D tyc A s sa ws (ct_mt 188).2.2.1 r2 ad2 sq_L [] (sm_E pz_E [], (sq_h.1, ai_tset 9 sq_h.2 285 (some (.inr (.inl (0, 200, ai_lo32, ai_hi32, []))))), 0, 0) H2 locs2 ls2 st2 := hR3
  rw [S1] at hR3
  have hR3 : ai_Rel D tyc A s sa ws (ct_mt 188).2.2.1 r2 ad2 sq_L [] (sm_E pz_E [], sq_put, 0, 0) H2 locs2 ls2 st2 := hR3
  rw [sq_put_ok] at hR3
  refine pz_ret (Post := sq_Post) rfl F hret S8 S7 pz_sm.rf hW (pz_ad (nb := []) hax hR3) ⟨rfl, fun t h1 h2 h3 => (hun t h1 h2 h3).trans (hx t h2), hI, ?_⟩
  rw [← hx 7 (by omega)]
  exact hle
