/-! n minutes of the class -/
noncomputable def nf_gn (r : Nat → Int) : Nat → Int := fun t => if t = 105 then r 105 + 1 else r t
noncomputable def nf_step (r : Nat → Int) : Nat → Int := nf_gn (if r 102 = 0 then nf_one r else r)
noncomputable def nf_it : Nat → (Nat → Int) → Nat → Int
  | 0, r => r
  | k + 1, r => nf_step (nf_it k r)
noncomputable def nf_i (r : Nat → Int) (i : Int) : Nat → Int := fun t => if t = 400 then i else r t
theorem nf_oneK {r : Nat → Int} {t : Nat} (h : ¬ (370 ≤ t ∧ t < 374) ∧ t ≠ 106 ∧ t ≠ 107 ∧ t ≠ 108 ∧ t ≠ 102) : nf_one r t = r t := by
  obtain ⟨h1, h2, h3, h4, h5⟩ := h
  unfold nf_one nf_p4 nf_p3 nf_p2 nf_p1
  simp only [if_neg h1, if_neg h2, if_neg h3, if_neg h4, if_neg h5]
theorem nf_stepK {r : Nat → Int} {t : Nat} (h : ¬ (370 ≤ t ∧ t < 374) ∧ t ≠ 106 ∧ t ≠ 107 ∧ t ≠ 108 ∧ t ≠ 102) (hg : t ≠ 105) : nf_step r t = r t := by
  unfold nf_step nf_gn
  rw [if_neg hg]
  split
  · exact nf_oneK h
  · rfl
theorem nf_stepG (r : Nat → Int) : nf_step r 105 = r 105 + 1 := by
  unfold nf_step nf_gn
  rw [if_pos rfl]
  split
  · rw [nf_oneK (by decide)]
  · rfl
theorem nf_itK {r : Nat → Int} {t : Nat} (h : ¬ (370 ≤ t ∧ t < 374) ∧ t ≠ 106 ∧ t ≠ 107 ∧ t ≠ 108 ∧ t ≠ 102) (hg : t ≠ 105) : ∀ k, nf_it k r t = r t
  | 0 => rfl
  | k + 1 => (nf_stepK h hg).trans (nf_itK h hg k)
theorem nf_itG (r : Nat → Int) : ∀ k : Nat, nf_it k r 105 = r 105 + (k : Int)
  | 0 => by
    show r 105 = _
    omega
  | k + 1 => by
    show nf_step (nf_it k r) 105 = _
    rw [nf_stepG, nf_itG r k]
    omega
/-! the same numbers below N1: the same minute -/
theorem nf_cg1 {a b : Nat → Int} (h : ∀ t, t < 400 → a t = b t) : ∀ t, t < 400 → nf_p1 a t = nf_p1 b t := fun t ht => by
  unfold nf_p1
  by_cases q : 370 ≤ t ∧ t < 374
  · rw [if_pos q, if_pos q, h t ht, h 105 (by omega), h (374 + (t - 370)) (by omega)]
  · rw [if_neg q, if_neg q, h t ht]
theorem nf_cg2 {a b : Nat → Int} (h : ∀ t, t < 400 → a t = b t) : ∀ t, t < 400 → nf_p2 a t = nf_p2 b t := fun t ht => by
  unfold nf_p2
  by_cases q : 370 ≤ t ∧ t < 374
  · rw [if_pos q, if_pos q, h t ht, h 106 (by omega), h 110 (by omega), h 104 (by omega), h (146 + (t - 370)) (by omega)]
  · rw [if_neg q, if_neg q, h t ht]
theorem nf_cg3 {a b : Nat → Int} (h : ∀ t, t < 400 → a t = b t) : ∀ t, t < 400 → nf_p3 a t = nf_p3 b t := fun t ht => by
  unfold nf_p3 nf_mk nf_ld
  rw [h t ht, h 106 (by omega), h 107 (by omega), h (60 + 0) (by omega), h (60 + 1) (by omega), h (60 + 2) (by omega), h (60 + 3) (by omega), h 370 (by omega), h (370 + 1) (by omega), h (370 + 2) (by omega), h (370 + 3) (by omega)]
theorem nf_cg4 {a b : Nat → Int} (h : ∀ t, t < 400 → a t = b t) : ∀ t, t < 400 → nf_p4 a t = nf_p4 b t := fun t ht => by
  unfold nf_p4
  rw [h t ht, h 106 (by omega), h 108 (by omega), h 109 (by omega), h 107 (by omega)]
  by_cases q : b 106 < 49000 ∧ (b 108 < b 109 ∧ b 108 < 4)
  · rw [h (64 + (b 108).toNat) (by omega)]
  · simp only [if_neg q]
theorem nf_cg {a b : Nat → Int} (h : ∀ t, t < 400 → a t = b t) : ∀ t, t < 400 → nf_one a t = nf_one b t := nf_cg4 (nf_cg3 (nf_cg2 (nf_cg1 h)))
noncomputable def nf_Lp (x : ai_V) : List ai_V := [.inr (.inr (some (some 193))), .inl (399, 0), x]
noncomputable def nf_P5 : List (Nat × Nat × Nat) := [(105, 193, 3), (400, 0, 2)]
noncomputable def nf_P6 : List (Nat × Nat × Nat) := [(102, 193, 1)]
noncomputable def nf_lt : ai_D := (32, 0, (400, 1), (399, 0))
noncomputable def nf_ge : ai_D := (32, 0, (399, 0), (400, 0))
noncomputable def nf_Gd (G : ai_G) (d : Nat) : ai_G := lx_sp 102 (.ofNat d) (hg_cap (hk_df G nf_lt) 105 (0, 999))
noncomputable def nf_Gs (G : ai_G) : ai_G := hg_cap (hg_cap G 105 (0, 999)) 400 (0, 999)
noncomputable def nf_c5 (pc : Nat) (d : Nat) (f : ai_F) : Bool := (Nat.beq f.1 pc && cy_z f) && (nf_ck nf_hc [] nf_P6 (nf_Lp (.inl (400, 0))) f && cx_q (cx_im (lx_jW [] nf_P6 f) (102, 0)) (0, .ofNat d))
noncomputable def nf_c6 (f : ai_F) : Bool := (Nat.beq f.1 25 && cy_z f) && ((hy_heq f.2.2.2.2.1 nf_hc && nf_qE f.2.2.2.1) && (decide (f.2.1 = nf_Lp (.inl (400, 0))) && cy_vk 56 25 57 f.2.2.2.2.1 f.2.2.1 [.inr (.inr (some (some 193)))] []))
noncomputable def nf_c7 (f : ai_F) : Bool := (Nat.beq f.1 2 && cy_z f) && (nf_ck nf_hc [] nf_P5 (nf_Lp (.inl (400, 0))) f && (cx_q (cx_im (lx_jW [] nf_P5 f) (105, 0)) (105, 1) && cx_q (cx_im (lx_jW [] nf_P5 f) (400, 0)) (400, 1)))
noncomputable def nf_c8 (f : ai_F) : Bool := (Nat.beq f.1 48 && cy_z f) && (hy_heq f.2.2.2.2.1 nf_hc && decide (f.2.2.1 = [.inl (106, 0)]))
noncomputable def nf_c9 (f : ai_F) : Bool := (Nat.beq f.1 2 && cy_z f) && (nf_ck nf_hc [] [(400, 0, 2)] (nf_Lp (.inl (400, 0))) f && cx_q (cx_im (lx_jW [] [(400, 0, 2)] f) (400, 0)) (0, 0))
theorem nf_plp : lh_plain 56 = true := by decide +kernel
theorem nf_wfp : nf_wf nf_hc (nf_Lp (.inl (400, 0))) = true := by decide +kernel
theorem nf_k9 : lz_chk [] 56 [2] false 0 (nf_Lp (.inr (.inr none))) [] nf_Gc nf_c9 = true := by decide +kernel
theorem nf_k5 : lz_chk [] 56 [24, 28] false 2 (nf_Lp (.inl (400, 0))) [] (nf_Gd nf_Gc 0) (nf_c5 24 0) = true := by decide +kernel
theorem nf_k5' : lz_chk [] 56 [24, 28] false 2 (nf_Lp (.inl (400, 0))) [] (nf_Gd nf_Gc 1) (nf_c5 28 1) = true := by decide +kernel
theorem nf_k6 : lz_chk [] 56 [25] false 24 (nf_Lp (.inl (400, 0))) [] nf_Gc nf_c6 = true := by decide +kernel
theorem nf_k7 : lz_chk [] 56 [2] false 28 (nf_Lp (.inl (400, 0))) [] (nf_Gs nf_Gc) nf_c7 = true := by decide +kernel
theorem nf_k8 : lz_chk [] 56 [48] false 2 (nf_Lp (.inl (400, 0))) [] (hk_df nf_Gc nf_ge) nf_c8 = true := by decide +kernel
theorem nf_irp : fc_ir 56 48 = true := by decide +kernel
theorem nf_bud : ct_bud 57 = (0, 0) ∧ ct_bud 56 = (0, 0) := by decide +kernel
theorem nf_dkb : (102, ((0 : Int), (1 : Int))) ∈ nf_E.2.1 ∧ (105, ((0 : Int), (1000 : Int))) ∈ nf_E.2.1 ∧ (399, ((0 : Int), (1000 : Int))) ∈ nf_E.2.1 ∧ (400, ((0 : Int), (1000 : Int))) ∈ nf_E.2.1 := by decide +kernel
section NFD
variable {p : Program} {l : Launch} {e : Env} {s : State} {m : MethodId} {args : Array Value} {below : List Frame} {meth : Method} {c : Code}
variable {D : va_G} {tyc : Nat → ClassId} {A : Nat → Prop} {sa : ai_B} {ws : va_W} {mi n pc nL : Nat}
variable {L L0 : List ai_V} {G : ai_G} {r r' r2 : Nat → Int} {ad ad' : Nat → Nat} {H : Heap} {locs : List Loc} {ls : Array Slot} {st : List Value}
/-- locals under other numbers that are the same for them -/
theorem nf_gL2 {N nn : Nat} (hv : ∀ b ∈ L, ∀ x, b = .inl x ∨ b = .inr (.inl x) → ai_vx r2 x = ai_vx r x) (g : ai_gL r ad N nn nL L ls) : ai_gL r2 ad N nn nL L ls := by
  have mem : ∀ {L : List ai_V} {i : Nat}, ai_lget L i ≠ .inr (.inr none) → ai_lget L i ∈ L := by
    intro L
    induction L with
    | nil => intro i h; exact absurd (by cases i <;> rfl) h
    | cons a L ih =>
      intro i h
      cases i with
      | zero => exact List.mem_cons_self
      | succ i => exact List.mem_cons_of_mem _ (ih h)
  obtain ⟨g1, g2, g3, g4⟩ := g
  refine ⟨g1, g2, g3, fun i hi => ?_⟩
  obtain ⟨v, v1, v2⟩ := g4 i hi
  refine ⟨v, v1, ?_⟩
  have hm := mem hi
  rcases eb : ai_lget L i with x | x | _ | _ | q
  · rw [eb] at v2 hm
    obtain ⟨q1, q2, q3, q4⟩ := v2
    exact ⟨q1, q2, q3, by rw [hv _ hm x (Or.inl rfl)]; exact q4⟩
  · rw [eb] at v2 hm
    obtain ⟨q1, q2, q3, q4⟩ := v2
    exact ⟨q1, q2, q3, by rw [hv _ hm x (Or.inr rfl)]; exact q4⟩
  · rw [eb] at v2; exact v2
  · rw [eb] at v2; exact v2
  · rw [eb] at v2; exact v2
end NFD
section NFE
variable {p : Program} {l : Launch} {e : Env} {s : State} {m : MethodId} {args : Array Value} {below : List Frame} {meth : Method} {c : Code}
variable {D : va_G} {tyc : Nat → ClassId} {A : Nat → Prop} {sa : ai_B} {ws : va_W} {n : Nat}
variable {r : Nat → Int} {ad ad' : Nat → Nat} {H : Heap} {locs : List Loc} {ls : Array Slot} {st : List Value}
theorem nf_cks {h0 : ai_H} {C : List Nat} {P : List (Nat × Nat × Nat)} {L0 : List ai_V} {f : ai_F} (h : nf_ck h0 C P L0 f = true) : f.2.2.1 = [] := by
  unfold nf_ck at h
  split at h
  · rw [Bool.and_eq_true] at h
    exact List.isEmpty_iff.mp h.2
  · cases h
theorem nf_nil {N nn : Nat} (h : ai_gF r ad N nn [] st) : st = [] := by
  cases st with
  | nil => rfl
  | cons a b => exact h.elim
/-- what n minutes leave: below N1 as told -/
noncomputable def nf_Z (r r2 : Nat → Int) (k : Nat) : Prop := ∀ t, t < 400 → r2 t = nf_it k r t
noncomputable def nf_Qp (D : va_G) (tyc : Nat → ClassId) (A : Nat → Prop) (sa : ai_B) (ws : va_W) (r : Nat → Int) (ad : Nat → Nat) (h0 : ai_H) (k : Nat) : Array Value → State → Outcome → State → Prop :=
  fun _ s u T => ∃ (i : Int32) (r2 : Nat → Int), u = .returned (some (.int i)) ∧ i.toInt = nf_it k r 106 ∧ nf_Z r r2 k ∧ ai_Wd D tyc A sa ws r2 ad (nf_E, h0, 0, 0) T.heap ∧ va_F A s T
theorem nf_iK {x : Nat → Int} {i : Int} {t : Nat} (h : t ≠ 400) : nf_i x i t = x t := if_neg h
set_option maxHeartbeats 8000000 in
theorem nf_ploop (hn : 4 ≤ n) (hl : l.stackTraces = false) (hPw : ai_Pw tyc ws) (F : ls_Fr p (lt_rm (n + 2) 56) s m args meth c D tyc A sa 56) (hret : meth.sig.returnType = (ct_mt 56).2.2.2.1) (hnn : 0 ≤ r 399 ∧ 0 ≤ r 105 ∧ r 105 + r 399 ≤ 1000) {k : Nat} (hk : r 399 = (k : Int)) :
    ∀ (d i : Nat) (ad' : Nat → Nat) (H : Heap) (locs : List Loc) (ls : Array Slot), k - i = d → i ≤ k → ai_Rel D tyc A s sa ws (ct_mt 56).2.2.1 (nf_i (nf_it i r) i) ad' (nf_Lp (.inl (400, 0))) [] nf_Gc H locs ls [] → ai_ext 336 ad ad' →
      W p l e (lt_rm (n + 2) 56) s m args below meth c H locs 0 0 (vx_MQ below (nf_Qp D tyc A sa ws r ad nf_hc k) (fun _ _ _ => False) args s (lt_rm (n + 2) 56).cells (lt_rm (n + 2) 56).slots A) (F0 m 2 ls []) := by
  have hN := nf_EN.1
  obtain ⟨bD, bG, bN, bI⟩ := nf_dkb
  obtain ⟨bu1, bu2⟩ := nf_bud
  intro d
  induction d with
  | zero =>
    intro i ad' H locs ls hd hi hR hax
    have ei : k = i := by omega
    have hE := hR.env
    have e1 : nf_i (nf_it i r) i 399 = (i : Int) := by
      rw [nf_iK (by decide), nf_itK (by decide) (by decide) i, hk, ei]
    have e2 : nf_i (nf_it i r) i 400 = (i : Int) := if_pos rfl
    have hR2 := hk_le hR (x := (399, 0)) (y := (400, 0)) ⟨by show 399 < nf_E.1; rw [hN]; omega, by show 400 < nf_E.1; rw [hN]; omega⟩ (by
      show nf_i (nf_it i r) i 399 + 0 ≤ nf_i (nf_it i r) i 400 + 0
      rw [e1, e2]
      exact Int.le_refl _)
    refine lh_ok (n := n + 1) (G := hk_df nf_Gc nf_ge) (k0 := 0) (T := []) nf_plp F hl trivial (by omega) hPw nf_k8 hR2 (fun f hf r1 ad1 x1 x2 x3 x4 H1 locs1 ls1 st1 hR1 => ?_)
    have x1 : ai_ext nf_E.1 (nf_i (nf_it i r) i) r1 := x1
    have x2 : ai_ext 336 ad' ad1 := x2
    unfold nf_c8 at hf
    simp only [Bool.and_eq_true, decide_eq_true_eq] at hf
    obtain ⟨⟨f1, f2⟩, f3, f4⟩ := hf
    obtain ⟨z1, z2⟩ := cy_z_ok f2
    have f3 := hy_heq_ok f3
    rw [f4] at hR1
    rw [Nat.eq_of_beq_eq_true f1]
    refine lh_iret (n := n + 1) (G := f.2.2.2) (x := (106, 0)) F nf_plp hret nf_irp hR1 ⟨by rw [z1]; exact Nat.zero_le _, by rw [z2]; exact Nat.zero_le _⟩ (fun T i1 hi1 hWdT hF => ⟨i1, nf_i (nf_it i r) i, rfl, ?_, fun t ht => ?_, ?_, hF⟩)
    · rw [hi1, nf_v, x1 _ (by rw [hN]; omega), nf_iK (by decide), ei]
    · rw [nf_iK (by omega), ei]
    · refine nf_bk nf_whc rfl hax ?_
      exact cy_back (E := nf_E) (h := nf_hc) (E' := f.2.2.2.1) (h' := f.2.2.2.2.1) (by rw [hN]; exact nf_whc) f3 hE x1 x2 hWdT
  | succ d ih =>
    intro i ad' H locs ls hd hi hR hax
    have hE : ai_gE (nf_i (nf_it i r) i) nf_E := hR.env
    have e1 : nf_i (nf_it i r) i 399 = (k : Int) := by
      rw [nf_iK (by decide), nf_itK (by decide) (by decide) i, hk]
    have e2 : nf_i (nf_it i r) i 400 = (i : Int) := if_pos rfl
    have e3 : nf_i (nf_it i r) i 105 = r 105 + (i : Int) := by
      rw [nf_iK (by decide), nf_itG]
    have bDK : 0 ≤ nf_i (nf_it i r) i 102 ∧ nf_i (nf_it i r) i 102 ≤ 1 := (hE.2.2.2.1 _ bD).2
    have hR2 := hk_le hR (x := (400, 1)) (y := (399, 0)) ⟨by show 400 < nf_E.1; rw [hN]; omega, by show 399 < nf_E.1; rw [hN]; omega⟩ (by
      show nf_i (nf_it i r) i 400 + 1 ≤ nf_i (nf_it i r) i 399 + 0
      rw [e1, e2]
      omega)
    have hR3 := hg_cap_ok hR2 (t := 105) (b := (0, 999)) (by show 105 < nf_E.1; rw [hN]; omega) ⟨by show (0 : Int) ≤ _; rw [e3]; omega, by show _ ≤ (999 : Int); rw [e3]; omega⟩
    -- from 28 on: gone and i are one more
    have from28 : ∀ (y : Nat → Int) (ad2 : Nat → Nat) (H2 : Heap) (locs2 : List Loc) (ls2 : Array Slot), ai_Rel D tyc A s sa ws (ct_mt 56).2.2.1 y ad2 (nf_Lp (.inl (400, 0))) [] nf_Gc H2 locs2 ls2 [] → ai_ext 336 ad ad2 → y 400 = (i : Int) → y 105 = r 105 + (i : Int) → (∀ t, t < 400 → nf_gn y t = nf_step (nf_it i r) t) → W p l e (lt_rm (n + 2) 56) s m args below meth c H2 locs2 0 0 (vx_MQ below (nf_Qp D tyc A sa ws r ad nf_hc k) (fun _ _ _ => False) args s (lt_rm (n + 2) 56).cells (lt_rm (n + 2) 56).slots A) (F0 m 28 ls2 []) := by
      intro y ad2 H2 locs2 ls2 hRy hax2 hy1 hyG hys
      have hEy : ai_gE y nf_E := hRy.env
      have hRy2 := hg_cap_ok (hg_cap_ok hRy (t := 105) (b := (0, 999)) (by show 105 < nf_E.1; rw [hN]; omega) ⟨by show (0 : Int) ≤ _; rw [hyG]; omega, by show _ ≤ (999 : Int); rw [hyG]; omega⟩) (t := 400) (b := (0, 999)) (by show 400 < nf_E.1; rw [hN]; omega) ⟨by show (0 : Int) ≤ _; rw [hy1]; omega, by show _ ≤ (999 : Int); rw [hy1]; omega⟩
      refine lh_ok (n := n + 1) (G := nf_Gs nf_Gc) (k0 := 0) (T := []) nf_plp F hl trivial (by omega) hPw nf_k7 hRy2 (fun f hf r1 ad3 x1 x2 x3 x4 H3 locs3 ls3 st3 hR1 => ?_)
      have x1 : ai_ext nf_E.1 y r1 := x1
      have x2 : ai_ext 336 ad2 ad3 := x2
      rw [hN] at x1
      unfold nf_c7 at hf
      simp only [Bool.and_eq_true] at hf
      obtain ⟨⟨f1, f2⟩, f3, f4, f5⟩ := hf
      obtain ⟨z1, z2⟩ := cy_z_ok f2
      have R2 := nf_re (fin := nf_i (nf_it (i + 1) r) ((i + 1 : Nat) : Int)) nf_wfp hEy x1 hR1 f3 (fun t ht hp => by
        have h1 := hp (105, 193, 3) List.mem_cons_self
        have h2 := hp (400, 0, 2) (List.mem_cons_of_mem _ List.mem_cons_self)
        have h2 : t ≠ 400 := fun q => h2 q.symm
        rw [nf_iK h2]
        show nf_step (nf_it i r) t = y t
        rw [← hys t (by omega)]
        show (if t = 105 then _ else y t) = y t
        rw [if_neg (fun q => h1 q.symm)]) (fun q hq => by
        rcases List.mem_cons.mp hq with rfl | hq
        · rw [cx_q_ok f4]
          show nf_i (nf_it (i + 1) r) _ 105 = r1 105 + 1
          rw [nf_iK (by decide), nf_itG, x1 _ (by omega), hyG]
          omega
        · rcases List.mem_cons.mp hq with rfl | hq
          · rw [cx_q_ok f5]
            show nf_i (nf_it (i + 1) r) _ 400 = r1 400 + 1
            rw [x1 _ (by omega), hy1]
            show (if 400 = 400 then _ else _) = _
            rw [if_pos rfl]
            omega
          · cases hq)
      have hst3 := nf_nil R2.stk
      subst hst3
      rw [Nat.eq_of_beq_eq_true f1, z1, z2]
      exact ih (i + 1) ad3 H3 locs3 ls3 (by omega) (by omega) R2 (fun u hu => (x2 u hu).trans (hax2 u hu))
    have no16 : ∀ q, q < 16 → ai_cell (hg_cap (hk_df nf_Gc nf_lt) 105 (0, 999)).2.1 q = none := fun q hq => nf_no16 q hq
    rcases (by omega : nf_i (nf_it i r) i 102 = 0 ∨ nf_i (nf_it i r) i 102 = 1) with hd0 | hd1
    · have hR4 := lx_sp_ok (t := 102) (k := .ofNat 0) hR3 hd0 no16
      refine lh_ok (n := n + 1) (G := nf_Gd nf_Gc 0) (k0 := 0) (T := []) nf_plp F hl trivial (by omega) hPw nf_k5 hR4 (fun f hf r1 ad1 x1 x2 x3 x4 H1 locs1 ls1 st1 hR1 => ?_)
      have x1 : ai_ext nf_E.1 (nf_i (nf_it i r) i) r1 := x1
      have x2 : ai_ext 336 ad' ad1 := by
        have : (nf_Gd nf_Gc 0).2.1.1 = 336 := lx_spn
        rw [this] at x2
        exact x2
      rw [hN] at x1
      unfold nf_c5 at hf
      simp only [Bool.and_eq_true] at hf
      obtain ⟨⟨f1, f2⟩, f3, f4⟩ := hf
      obtain ⟨z1, z2⟩ := cy_z_ok f2
      have R2 := nf_re (fin := nf_i (nf_it i r) i) nf_wfp hE x1 hR1 f3 (fun t ht hp => rfl) (fun q hq => by
        rcases List.mem_cons.mp hq with rfl | hq
        · rw [cx_q_ok f4, hd0]
          show (0 : Int) = r1 0 + 0
          rw [hR1.env.1]
          rfl
        · cases hq)
      have hst1 := nf_nil R2.stk
      subst hst1
      rw [Nat.eq_of_beq_eq_true f1, z1, z2]
      have R2 : ai_Rel D tyc A s sa ws (ct_mt 56).2.2.1 (nf_i (nf_it i r) i) ad1 (nf_Lp (.inl (400, 0))) [] nf_Gc H1 locs1 ls1 [] := R2
      refine lh_ok (n := n + 1) (G := nf_Gc) (k0 := 0) (T := []) nf_plp F hl trivial (by omega) hPw nf_k6 R2 (fun g hg r2 ad2 y1 y2 y3 y4 H2 locs2 ls2 st2 hR5 => ?_)
      have y1 : ai_ext nf_E.1 (nf_i (nf_it i r) i) r2 := y1
      have y2 : ai_ext 336 ad1 ad2 := y2
      rw [hN] at y1
      unfold nf_c6 at hg
      simp only [Bool.and_eq_true, decide_eq_true_eq] at hg
      obtain ⟨⟨g1, g2⟩, ⟨g3, g4⟩, g5, g6⟩ := hg
      have g3 := hy_heq_ok g3
      have g4 := nf_qE_ok g4
      obtain ⟨z3, z4⟩ := cy_z_ok g2
      obtain ⟨idx, b, ec, hv⟩ := cy_vk_ok g6
      obtain ⟨-, -, hLL, -⟩ := hR5.wd
      rw [Nat.eq_of_beq_eq_true g1]
      have rc : (lt_rm (n + 1) 57).cells = 0 := by
        show (ct_bud 57).1 = 0
        rw [bu1]
      have rs : (lt_rm (n + 1) 57).slots = 0 := by
        show (ct_bud 57).2 = 0
        rw [bu1]
      refine lh_callv (n := n + 1) (G := g.2.2.2) (mi := 56) (mj := 57) nf_plp nf_plo (by decide) F ec hv hR5 ⟨by rw [z3, rc]; exact Nat.zero_le _, by rw [z4, rs]; exact Nat.zero_le _⟩ (fun As gA hWd2 => by
        rw [g3, g4] at hWd2 gA
        exact nf_passOne hn hl hPw hWd2 gA) (fun a0 st0 T v rest locs3 e0 hq hrest hS1 => ?_)
      obtain ⟨ev, hWd3, hF⟩ := hq
      cases ev
      have er : rest = [] := by
        cases rest with
        | nil => rfl
        | cons _ _ => exact hrest.elim
      subst er
      have hL3 : ai_gL (nf_one r2) ad2 nf_E.1 336 (ct_mt 56).2.2.1 (nf_Lp (.inl (400, 0))) ls2 := by
        rw [g3, g4, g5] at hLL
        refine nf_gL2 (fun b hb x hx => ?_) hLL
        unfold nf_Lp at hb
        simp only [List.mem_cons, List.not_mem_nil, or_false] at hb
        rcases hb with rfl | rfl | rfl
        · rcases hx with hx | hx <;> cases hx
        · rcases hx with hx | hx <;> cases hx
          show nf_one r2 399 + 0 = r2 399 + 0
          rw [nf_oneK (by decide)]
        · rcases hx with hx | hx <;> cases hx
          show nf_one r2 400 + 0 = r2 400 + 0
          rw [nf_oneK (by decide)]
      have hR6 : ai_Rel D tyc A s sa ws (ct_mt 56).2.2.1 (nf_one r2) ad2 (nf_Lp (.inl (400, 0))) [] nf_Gc T.heap locs3 ls2 [] := ai_Wd.rel (G := nf_Gc) hWd3 (hS1 hF) hL3 trivial
      have q1 : g.2.2.2.2.2.1 + (lt_rm (n + 1) 57).cells = 0 := by rw [z3, rc]
      have q2 : g.2.2.2.2.2.2 + (lt_rm (n + 1) 57).slots = 0 := by rw [z4, rs]
      rw [q1, q2]
      refine from28 (nf_one r2) ad2 T.heap locs3 ls2 hR6 (fun u hu => (y2 u hu).trans ((x2 u hu).trans (hax u hu))) ?_ ?_ (fun t ht => ?_)
      · rw [nf_oneK (by decide), y1 _ (by omega), e2]
      · rw [nf_oneK (by decide), y1 _ (by omega), e3]
      · have hz : nf_it i r 102 = 0 := by
          rw [← nf_iK (x := nf_it i r) (i := (i : Int)) (t := 102) (by decide)]
          exact hd0
        have hcg := nf_cg (a := r2) (b := nf_it i r) (fun u hu => by rw [y1 u (by omega), nf_iK (by omega)])
        unfold nf_step nf_gn
        rw [if_pos hz]
        by_cases q : t = 105
        · rw [if_pos q, if_pos q, hcg 105 (by omega)]
        · rw [if_neg q, if_neg q, hcg t ht]
    · have hR4 := lx_sp_ok (t := 102) (k := .ofNat 1) hR3 hd1 no16
      refine lh_ok (n := n + 1) (G := nf_Gd nf_Gc 1) (k0 := 0) (T := []) nf_plp F hl trivial (by omega) hPw nf_k5' hR4 (fun f hf r1 ad1 x1 x2 x3 x4 H1 locs1 ls1 st1 hR1 => ?_)
      have x1 : ai_ext nf_E.1 (nf_i (nf_it i r) i) r1 := x1
      have x2 : ai_ext 336 ad' ad1 := by
        have : (nf_Gd nf_Gc 1).2.1.1 = 336 := lx_spn
        rw [this] at x2
        exact x2
      rw [hN] at x1
      unfold nf_c5 at hf
      simp only [Bool.and_eq_true] at hf
      obtain ⟨⟨f1, f2⟩, f3, f4⟩ := hf
      obtain ⟨z1, z2⟩ := cy_z_ok f2
      have R2 := nf_re (fin := nf_i (nf_it i r) i) nf_wfp hE x1 hR1 f3 (fun t ht hp => rfl) (fun q hq => by
        rcases List.mem_cons.mp hq with rfl | hq
        · rw [cx_q_ok f4, hd1]
          show (1 : Int) = r1 0 + 1
          rw [hR1.env.1]
          rfl
        · cases hq)
      have hst1 := nf_nil R2.stk
      subst hst1
      rw [Nat.eq_of_beq_eq_true f1, z1, z2]
      have hz : nf_it i r 102 ≠ 0 := by
        rw [← nf_iK (x := nf_it i r) (i := (i : Int)) (t := 102) (by decide), hd1]
        decide
      refine from28 (nf_i (nf_it i r) i) ad1 H1 locs1 ls1 R2 (fun u hu => (x2 u hu).trans (hax u hu)) e2 e3 (fun t ht => ?_)
      unfold nf_step nf_gn
      rw [if_neg hz, nf_iK (x := nf_it i r) (t := 105) (by decide), nf_iK (x := nf_it i r) (t := t) (by omega)]
end NFE
