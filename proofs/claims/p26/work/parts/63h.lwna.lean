/-! BY HAND: minutes of a night: states within a few cells, by what is changed -/
theorem nf_bf {a b : Nat} (h : a ≠ b) : Nat.beq a b = false := by
  cases e : Nat.beq a b with
  | false => rfl
  | true => exact absurd (Nat.eq_of_beq_eq_true e) h
noncomputable def nf_E : ai_E := (hg_new (hg_new lx_z0 (0, 1000)) (0, 1000)).1
noncomputable def nf_pk (l : List Nat) : ai_H := (336, l.foldl (fun T q => ai_tset 9 T q (ai_cell lx_h q)) ce_9)
noncomputable def nf_hc : ai_H := nf_pk [16, 335, 193, 194, 195, 196, 197, 17, 23, 44, 50, 56, 62]
noncomputable def nf_hr : ai_H := nf_pk [264, 322, 323, 324, 325, 326]
noncomputable def nf_un : Bool := nf_E.2.1.all (fun q => match fz_look nf_E.2.1 q.1 with | (a, b) => ai_le q.2.1 a && (ai_le b q.2.2 && Nat.blt q.1 nf_E.1))
theorem nf_unok : nf_un = true := by decide +kernel
theorem nf_EN : nf_E.1 = 401 ∧ nf_E.2.2 = [] := by decide +kernel
noncomputable def nf_wf (h0 : ai_H) (L0 : List ai_V) : Bool := (xs_wh 401 h0 && L0.all (sm_wv 401 336)) && (Nat.beq h0.1 336 && (List.range 16).all (fun q => (ai_cell h0 q).isNone))
noncomputable def nf_go (h0 : ai_H) (L0 : List ai_V) (E : ai_E) (h : ai_H) (L : List ai_V) (W : List (Nat × ai_X)) : Bool := ((fz_ylook W 0).isNone && Nat.beq h.1 336) && (cx_vs W L L0 && (W.all (fun q => cx_bd E q.2 (fz_look nf_E.2.1 q.1)) && cx_t E W 9 h.2 h0.2))
theorem nf_gL {L0 : List ai_V} {r : Nat → Int} {ad : Nat → Nat} {N N' n nL : Nat} {W : List (Nat × ai_X)} {L : List ai_V} {ls : Array Slot} (h : cx_vs W L L0 = true) (hw : ∀ b ∈ L0, ai_wfV N' n b) (g : ai_gL r ad N n nL L ls) : ai_gL (cx_r r W) ad N' n nL L0 ls := by
  have key : ∀ {l m : List ai_V}, cx_vs W l m = true → l.length = m.length ∧ ∀ i, cx_v W (ai_lget l i) (ai_lget m i) = true := by
    intro l
    induction l with
    | nil =>
      intro m h
      cases m with
      | nil => exact ⟨rfl, fun i => rfl⟩
      | cons b m => cases h
    | cons a l ih =>
      intro m h
      cases m with
      | nil => cases h
      | cons b m =>
        obtain ⟨h1, h2⟩ := cx_br (show Bool.rec (motive := fun _ => Bool) false (cx_vs W l m) (cx_v W a b) = true from h)
        obtain ⟨k1, k2⟩ := ih h2
        refine ⟨by rw [List.length_cons, List.length_cons, k1], fun i => ?_⟩
        cases i with
        | zero => exact h1
        | succ i => exact k2 i
  have wf : ∀ {m : List ai_V}, (∀ b ∈ m, ai_wfV N' n b) → ∀ i, ai_wfV N' n (ai_lget m i) := by
    intro m
    induction m with
    | nil => intro _ i; cases i <;> exact trivial
    | cons b m ih =>
      intro h i
      cases i with
      | zero => exact h _ List.mem_cons_self
      | succ i => exact ih (fun z hz => h z (List.mem_cons_of_mem _ hz)) i
  obtain ⟨g1, g2, g3, g4⟩ := g
  obtain ⟨k1, k2⟩ := key h
  refine ⟨k1.symm.trans g1, g2, g3, fun i hi => ?_⟩
  have hne : ai_lget L i ≠ .inr (.inr none) := fun q => by
    have := k2 i
    rw [q] at this
    rcases eb : ai_lget L0 i with w | w | _ | _ | z
    · rw [eb] at this; cases this
    · rw [eb] at this; cases this
    · exact hi eb
    · rw [eb] at this; cases this
    · rw [eb] at this; cases this
  obtain ⟨v, v1, v2⟩ := g4 i hne
  exact ⟨v, v1, cx_v_ok (k2 i) (wf hw i) v2⟩
section NFA
variable {s : State} {D : va_G} {tyc : Nat → ClassId} {A : Nat → Prop} {sa : ai_B} {ws : va_W} {nL : Nat}
variable {r r' : Nat → Int} {ad : Nat → Nat} {L L0 : List ai_V} {E : ai_E} {h h0 : ai_H} {c1 s1 : Nat} {H : Heap} {locs : List Loc} {ls : Array Slot} {st : List Value} {W : List (Nat × ai_X)}
set_option maxHeartbeats 1000000 in
theorem nf_re0 (hwf : nf_wf h0 L0 = true) (hE0 : ai_gE r nf_E) (hx : ai_ext 401 r r') (hR : ai_Rel D tyc A s sa ws nL r' ad L [] (E, h, c1, s1) H locs ls st) (hgo : nf_go h0 L0 E h L W = true) : ai_Rel D tyc A s sa ws nL (cx_r r' W) ad L0 [] (nf_E, h0, 0, 0) H locs ls st := by
  unfold nf_go at hgo
  simp only [Bool.and_eq_true] at hgo
  obtain ⟨⟨h4, h5⟩, h2, h6, h1⟩ := hgo
  have h5 := Nat.eq_of_beq_eq_true h5
  rw [Option.isNone_iff_eq_none, fz_ylook_eq] at h4
  unfold nf_wf at hwf
  simp only [Bool.and_eq_true] at hwf
  obtain ⟨⟨w1, w2⟩, w3, w4⟩ := hwf
  rw [xs_wh_eq] at w1
  have w3 := Nat.eq_of_beq_eq_true w3
  obtain ⟨hN, hnd⟩ := nf_EN
  obtain ⟨ws1, hP, hD, hS, hE, hH, hO, hsa, hL, hSt⟩ := hR
  have hwC : ∀ k d, k < 336 → ai_cell h0 k = some d → ai_wfC 401 336 d := by
    have := sm_wh_ok (h := h0) w1
    rw [w3] at this
    exact this
  have hwL : ∀ b ∈ L0, ai_wfV 401 336 b := fun b hb => sm_wv_ok (List.all_eq_true.mp w2 b hb)
  have hu := nf_unok
  unfold nf_un at hu
  have hlook : ∀ q ∈ nf_E.2.1, (q.2.1 ≤ (ai_look nf_E.2.1 q.1).1 ∧ (ai_look nf_E.2.1 q.1).2 ≤ q.2.2) ∧ q.1 < nf_E.1 := fun q hq => by
    have g := List.all_eq_true.mp hu q hq
    rw [fz_look_eq] at g
    cases e : ai_look nf_E.2.1 q.1 with
    | mk a b =>
      rw [e] at g
      simp only [Bool.and_eq_true] at g
      exact ⟨⟨ai_le_iff.mp g.1, ai_le_iff.mp g.2.1⟩, Nat.le_of_ble_eq_true g.2.2⟩
  have hWb : ∀ t z, ai_ylook W t = some z → z.1 < E.1 ∧ (ai_look nf_E.2.1 t).1 ≤ ai_vx r' z ∧ ai_vx r' z ≤ (ai_look nf_E.2.1 t).2 ∧ ai_lo64 ≤ ai_vx r' z ∧ ai_vx r' z ≤ ai_hi64 := fun t z hz => by
    have hm : (t, z) ∈ W := by
      clear h1 h2 h4 h6
      induction W with
      | nil => cases hz
      | cons q W ih =>
        obtain ⟨u, x⟩ := q
        rw [ai_ylook_c] at hz
        split at hz
        · rename_i e
          cases hz
          rw [Nat.eq_of_beq_eq_true e]
          exact List.mem_cons_self
        · exact List.mem_cons_of_mem _ (ih hz)
    have g := List.all_eq_true.mp h6 _ hm
    rw [fz_look_eq] at g
    exact cx_bd_ok hE g
  have hid : ∀ t, ai_ylook W t = none → cx_r r' W t = r' t := fun t ht => by
    unfold cx_r
    rw [ht]
  have his : ∀ t z, ai_ylook W t = some z → cx_r r' W t = ai_vx r' z := fun t z ht => by
    unfold cx_r
    rw [ht]
  have hE2 : ai_gE (cx_r r' W) nf_E := by
    refine ⟨(hid 0 h4).trans hE.1, by rw [hN]; omega, fun t ht => ?_, fun q hq => ?_, fun q hq => ?_⟩
    · cases e : ai_ylook W t with
      | some z =>
        rw [his t z e]
        exact (hWb t z e).2.2.2
      | none =>
        rw [hid t e, hx t (by rw [← hN]; exact ht)]
        exact hE0.2.2.1 t ht
    · obtain ⟨k1, k2⟩ := hlook q hq
      refine ⟨k2, ?_⟩
      cases e : ai_ylook W q.1 with
      | some z =>
        have b := (hWb q.1 z e).2
        rw [his _ z e]
        exact ⟨Int.le_trans k1.1 b.1, Int.le_trans b.2.1 k1.2⟩
      | none =>
        rw [hid _ e, hx q.1 (by rw [← hN]; exact k2)]
        exact (hE0.2.2.2.1 q hq).2
    · rw [hnd] at hq
      cases hq
  have hcell : ∀ k, cx_o E W (ai_cell h k) (ai_cell h0 k) = true := fun k => cx_get h1 k
  have h16 : ∀ q, q < 16 → ai_cell h0 q = none := fun q hq => Option.isNone_iff_eq_none.mp (List.all_eq_true.mp w4 q (List.mem_range.mpr hq))
  have hH : ai_gH tyc r' ad E.1 ws h ws1 := hH
  refine ⟨ws1, hP, hD, hS, hE2, ⟨by have := hH.1; rw [h5] at this; rw [w3]; exact this, hH.2.1, fun k hk c hc => ?_, fun k hk hc => ?_⟩, fun q hq c hc => ?_, hsa, ?_, ?_⟩
  · have hk : k + 16 < h0.1 := hk
    rw [w3] at hk
    have hc : ai_cell h0 (k + 16) = some c := hc
    have g := hcell (k + 16)
    rw [hc] at g
    cases ea : ai_cell h (k + 16) with
    | none =>
      rw [ea] at g
      cases g
    | some a =>
      rw [ea] at g
      obtain ⟨e, e1, e2⟩ := hH.2.2.1 k (by rw [h5]; exact hk) a ea
      rw [h5] at e2
      refine ⟨e, e1, ?_⟩
      show ai_gC tyc (cx_r r' W) ad nf_E.1 h0.1 c e
      rw [hN, w3]
      exact cx_c_ok hE g (hwC _ _ hk hc) e2
  · have hk : k + 16 < h0.1 := hk
    rw [w3] at hk
    have hc : ai_cell h0 (k + 16) = none := hc
    have g := hcell (k + 16)
    rw [hc] at g
    cases ea : ai_cell h (k + 16) with
    | none => exact hH.2.2.2 k (by rw [h5]; exact hk) ea
    | some a =>
      rw [ea] at g
      cases g
  · have hc : ai_cell h0 q = some c := hc
    rw [h16 q hq] at hc
    cases hc
  · show ai_gL (cx_r r' W) ad nf_E.1 h0.1 nL L0 ls
    rw [hN, w3]
    rw [h5] at hL
    exact nf_gL h2 hwL hL
  · cases st with
    | nil => exact hSt
    | cons a l => exact hSt.elim
/-- the numbers may be told anew where they are the same -/
theorem nf_val {r2 : Nat → Int} {G : ai_G} {S : List ai_V} (hR : ai_Rel D tyc A s sa ws nL r ad L S G H locs ls st) (hnd : G.1.2.2 = []) (hb : ∀ q ∈ G.1.2.1, q.1 < G.1.1) (h : ∀ t, t < G.1.1 → r2 t = r t) : ai_Rel D tyc A s sa ws nL r2 ad L S G H locs ls st := by
  have hE := hR.env
  refine hR.re (E' := G.1) (r' := r2) (S' := S) (st' := st) h (Nat.le_refl _) ⟨(h 0 hE.2.1).trans hE.1, hE.2.1, fun t ht => ?_, fun q hq => ⟨hb q hq, ?_⟩, fun q hq => ?_⟩ (hR.stk.mono h ai_ext.rfl' (Nat.le_refl _) (Nat.le_refl _))
  · rw [h t ht]
    exact hE.2.2.1 t ht
  · rw [h _ (hb q hq)]
    exact (hE.2.2.2.1 q hq).2
  · rw [hnd] at hq
    cases hq
theorem nf_bt : ∀ q ∈ nf_E.2.1, q.1 < nf_E.1 := fun q hq => by
  have g := List.all_eq_true.mp (show nf_E.2.1.all _ = true from nf_unok) q hq
  split at g
  simp only [Bool.and_eq_true] at g
  exact Nat.le_of_ble_eq_true g.2.2
/-- a segment's end is one of the few cells, its numbers told by fin -/
noncomputable def nf_ck (h0 : ai_H) (C : List Nat) (P : List (Nat × Nat × Nat)) (L0 : List ai_V) (f : ai_F) : Bool := match so_G C f.2.2.2 with
  | some G => nf_go h0 L0 G.1 G.2.1 f.2.1 (cx_ws f.2.1 G.2.1 P) && f.2.2.1.isEmpty
  | none => false
theorem nf_out {h : ai_H} {P : List (Nat × Nat × Nat)} {t : Nat} : (∀ p ∈ P, p.1 ≠ t) → cx_r r (cx_ws L h P) t = r t := fun hp => by
  have : ai_ylook (cx_ws L h P) t = none := by
    unfold cx_ws
    induction P with
    | nil => rfl
    | cons p P ih =>
      show ai_ylook ((p.1, cx_at L h p.2.1 p.2.2) :: P.map (fun p => (p.1, cx_at L h p.2.1 p.2.2))) t = none
      rw [ai_ylook_c]
      have : Nat.beq p.1 t = false := nf_bf (hp p List.mem_cons_self)
      split
      · rename_i e
        first
        | (rw [this] at e; cases e)
        | exact absurd (Nat.eq_of_beq_eq_true e) (fun q => hp p List.mem_cons_self (by first | exact q | exact q.symm))
      · exact ih (fun q hq => hp q (List.mem_cons_of_mem _ hq))
  unfold cx_r
  rw [this]
theorem nf_re {C : List Nat} {P : List (Nat × Nat × Nat)} {f : ai_F} {fin : Nat → Int} (hwf : nf_wf h0 L0 = true) (hE0 : ai_gE r nf_E) (hx : ai_ext 401 r r') (hR : ai_Rel D tyc A s sa ws nL r' ad f.2.1 f.2.2.1 f.2.2.2 H locs ls st) (hck : nf_ck h0 C P L0 f = true) (hfin : ∀ t, t < 401 → (∀ p ∈ P, p.1 ≠ t) → fin t = r t) (hfin2 : ∀ p ∈ P, fin p.1 = ai_vx r' (cx_im (lx_jW C P f) (p.1, 0))) : ai_Rel D tyc A s sa ws nL fin ad L0 [] (nf_E, h0, 0, 0) H locs ls st := by
  unfold nf_ck at hck
  unfold lx_jW at hfin2
  split at hck
  · rename_i G eG
    rw [eG] at hfin2
    rw [Bool.and_eq_true] at hck
    have hS : f.2.2.1 = [] := List.isEmpty_iff.mp hck.2
    rw [hS] at hR
    obtain ⟨a1, -⟩ := so_G_ok eG hR
    have R2 := nf_re0 hwf hE0 hx a1 hck.1
    refine nf_val R2 nf_EN.2 nf_bt (fun t ht => ?_)
    have ht : t < 401 := by rw [← nf_EN.1]; exact ht
    by_cases q : ∀ p ∈ P, p.1 ≠ t
    · rw [hfin t ht q, nf_out q, hx t ht]
    · obtain ⟨p, hp⟩ := Classical.not_forall.mp q
      obtain ⟨hp1, hpt⟩ := Classical.not_imp.mp hp
      have hpt : p.1 = t := Classical.not_not.mp hpt
      subst hpt
      have e := cx_vx (r := r') (W := cx_ws f.2.1 G.2.1 P) (p.1, 0)
      have e : cx_r r' (cx_ws f.2.1 G.2.1 P) p.1 + 0 = _ := e
      rw [hfin2 p hp1, ← e, Int.add_zero]
  · cases hck
end NFA
noncomputable def nf_qB : List (Nat × Int × Int) → List (Nat × Int × Int) → Bool
  | [], [] => true
  | a :: l, b :: m => (Nat.beq a.1 b.1 && (ai_eq a.2.1 b.2.1 && ai_eq a.2.2 b.2.2)) && nf_qB l m
  | [], _ :: _ => false
  | _ :: _, [] => false
theorem nf_qB_ok : ∀ {l m : List (Nat × Int × Int)}, nf_qB l m = true → l = m
  | [], [], _ => rfl
  | a :: l, b :: m, h => by
    unfold nf_qB at h
    simp only [Bool.and_eq_true] at h
    obtain ⟨⟨h1, h2, h3⟩, h4⟩ := h
    rw [nf_qB_ok h4]
    exact congrArg (· :: m) (Prod.ext (Nat.eq_of_beq_eq_true h1) (Prod.ext (ai_eq_iff.mp h2) (ai_eq_iff.mp h3)))
  | [], _ :: _, h => by cases h
  | _ :: _, [], h => by cases h
noncomputable def nf_qE (E : ai_E) : Bool := Nat.beq E.1 nf_E.1 && (nf_qB E.2.1 nf_E.2.1 && E.2.2.isEmpty)
theorem nf_qE_ok {E : ai_E} (h : nf_qE E = true) : E = nf_E := by
  unfold nf_qE at h
  simp only [Bool.and_eq_true] at h
  obtain ⟨h1, h2, h3⟩ := h
  exact Prod.ext (Nat.eq_of_beq_eq_true h1) (Prod.ext (nf_qB_ok h2) ((List.isEmpty_iff.mp h3).trans nf_EN.2.symm))
