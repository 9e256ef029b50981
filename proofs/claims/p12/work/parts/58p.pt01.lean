/-! PURE TRANSITIONS (2): a state of few cells told again under other numbers -/
noncomputable def pt_un (E : ai_E) : Bool := E.2.1.all (fun q => match fz_look E.2.1 q.1 with | (a, b) => ai_eq a q.2.1 && (ai_eq b q.2.2 && Nat.blt q.1 E.1)) && E.2.2.isEmpty
noncomputable def pt_wf (N : Nat) (h0 : ai_H) : Bool := xs_wh N h0 && (Nat.beq h0.1 336 && (List.range 16).all (fun q => (ai_cell h0 q).isNone))
noncomputable def pt_go (E0 : ai_E) (h0 : ai_H) (L0 S0 : List ai_V) (E : ai_E) (h : ai_H) (L S : List ai_V) (W : List (Nat × ai_X)) : Bool := ((fz_ylook W 0).isNone && Nat.beq h.1 336) && ((cx_vs W L L0 && cx_vs W S S0) && ((L0.all (sm_wv E0.1 336) && S0.all (sm_wv E0.1 336)) && (W.all (fun q => cx_bd E q.2 (fz_look E0.2.1 q.1)) && cx_t E W 9 h.2 h0.2)))
theorem pt_no16 {N : Nat} {h0 : ai_H} (h : pt_wf N h0 = true) : ∀ q, q < 16 → ai_cell h0 q = none := fun q hq => by
  unfold pt_wf at h
  simp only [Bool.and_eq_true] at h
  exact Option.isNone_iff_eq_none.mp (List.all_eq_true.mp h.2.2 q (List.mem_range.mpr hq))
theorem pt_gL {L L0 : List ai_V} {r : Nat → Int} {ad : Nat → Nat} {N N' n nL : Nat} {W : List (Nat × ai_X)} {ls : Array Slot} (h : cx_vs W L L0 = true) (hw : ∀ b ∈ L0, ai_wfV N' n b) (g : ai_gL r ad N n nL L ls) : ai_gL (cx_r r W) ad N' n nL L0 ls := by
  have key : ∀ {l m : List ai_V}, cx_vs W l m = true → l.length = m.length ∧ ∀ i, cx_v W (ai_lget l i) (ai_lget m i) = true := by
    intro l
    induction l with
    | nil =>
      intro m h
      cases m with
      | nil => exact ⟨rfl, fun i => rfl⟩
      | cons b m => cases h
    | cons a l ih =>
      intro m h
      cases m with
      | nil => cases h
      | cons b m =>
        obtain ⟨h1, h2⟩ := cx_br (show Bool.rec (motive := fun _ => Bool) false (cx_vs W l m) (cx_v W a b) = true from h)
        obtain ⟨k1, k2⟩ := ih h2
        refine ⟨by rw [List.length_cons, List.length_cons, k1], fun i => ?_⟩
        cases i with
        | zero => exact h1
        | succ i => exact k2 i
  have wf : ∀ {m : List ai_V}, (∀ b ∈ m, ai_wfV N' n b) → ∀ i, ai_wfV N' n (ai_lget m i) := by
    intro m
    induction m with
    | nil => intro _ i; cases i <;> exact trivial
    | cons b m ih =>
      intro h i
      cases i with
      | zero => exact h _ List.mem_cons_self
      | succ i => exact ih (fun z hz => h z (List.mem_cons_of_mem _ hz)) i
  obtain ⟨g1, g2, g3, g4⟩ := g
  obtain ⟨k1, k2⟩ := key h
  refine ⟨k1.symm.trans g1, g2, g3, fun i hi => ?_⟩
  have hne : ai_lget L i ≠ .inr (.inr none) := fun q => by
    have := k2 i
    rw [q] at this
    rcases eb : ai_lget L0 i with w | w | _ | _ | z
    · rw [eb] at this; cases this
    · rw [eb] at this; cases this
    · exact hi eb
    · rw [eb] at this; cases this
    · rw [eb] at this; cases this
  obtain ⟨v, v1, v2⟩ := g4 i hne
  exact ⟨v, v1, cx_v_ok (k2 i) (wf hw i) v2⟩
theorem pt_gS {r : Nat → Int} {ad : Nat → Nat} {N N' n : Nat} {W : List (Nat × ai_X)} : ∀ {S S0 : List ai_V} {st : List Value}, cx_vs W S S0 = true → (∀ b ∈ S0, ai_wfV N' n b) → ai_gF r ad N n S st → ai_gF (cx_r r W) ad N' n S0 st := by
  intro S
  induction S with
  | nil =>
    intro S0 st h hw g
    cases S0 with
    | nil => cases st with
      | nil => exact trivial
      | cons _ _ => exact g.elim
    | cons b m => cases h
  | cons a l ih =>
    intro S0 st h hw g
    cases S0 with
    | nil => cases h
    | cons b m => cases st with
      | nil => exact g.elim
      | cons v st =>
        obtain ⟨h1, h2⟩ := cx_br (show Bool.rec (motive := fun _ => Bool) false (cx_vs W l m) (cx_v W a b) = true from h)
        exact ⟨cx_v_ok h1 (hw b List.mem_cons_self) g.1, ih h2 (fun z hz => hw z (List.mem_cons_of_mem _ hz)) g.2⟩
section PTB
variable {s : State} {D : va_G} {tyc : Nat → ClassId} {A : Nat → Prop} {sa : ai_B} {ws : va_W} {nL : Nat}
variable {r r' r2 : Nat → Int} {ad : Nat → Nat} {L L0 S S0 : List ai_V} {E0 E : ai_E} {h h0 : ai_H} {c1 s1 c2 s2 : Nat} {H : Heap} {locs : List Loc} {ls : Array Slot} {st : List Value} {W : List (Nat × ai_X)}
set_option maxHeartbeats 1000000 in
theorem pt_re0 (hun : pt_un E0 = true) (hwf : pt_wf E0.1 h0 = true) (hE0 : ai_gE r E0) (hx : ai_ext E0.1 r r') (hR : ai_Rel D tyc A s sa ws nL r' ad L S (E, h, c1, s1) H locs ls st) (hgo : pt_go E0 h0 L0 S0 E h L S W = true) : ai_Rel D tyc A s sa ws nL (cx_r r' W) ad L0 S0 (E0, h0, c2, s2) H locs ls st := by
  have w4 := pt_no16 hwf
  unfold pt_go at hgo
  simp only [Bool.and_eq_true] at hgo
  obtain ⟨⟨h4, h5⟩, ⟨h2, h3⟩, ⟨u1, u2⟩, h6, h1⟩ := hgo
  have h5 := Nat.eq_of_beq_eq_true h5
  rw [Option.isNone_iff_eq_none, fz_ylook_eq] at h4
  unfold pt_wf at hwf
  simp only [Bool.and_eq_true] at hwf
  obtain ⟨w1, w3, -⟩ := hwf
  rw [xs_wh_eq] at w1
  have w3 := Nat.eq_of_beq_eq_true w3
  unfold pt_un at hun
  rw [Bool.and_eq_true] at hun
  obtain ⟨hu, hnd⟩ := hun
  have hnd := List.isEmpty_iff.mp hnd
  obtain ⟨ws1, hP, hD, hS, hE, hH, hO, hsa, hL, hSt⟩ := hR
  have hE : ai_gE r' E := hE
  have hwC : ∀ k d, k < 336 → ai_cell h0 k = some d → ai_wfC E0.1 336 d := by
    have := sm_wh_ok (h := h0) w1
    rw [w3] at this
    exact this
  have hwL : ∀ b ∈ L0, ai_wfV E0.1 336 b := fun b hb => sm_wv_ok (List.all_eq_true.mp u1 b hb)
  have hwS : ∀ b ∈ S0, ai_wfV E0.1 336 b := fun b hb => sm_wv_ok (List.all_eq_true.mp u2 b hb)
  have hlook : ∀ q ∈ E0.2.1, ai_look E0.2.1 q.1 = q.2 ∧ q.1 < E0.1 := fun q hq => by
    have g := List.all_eq_true.mp hu q hq
    rw [fz_look_eq] at g
    cases e : ai_look E0.2.1 q.1 with
    | mk a b =>
      rw [e] at g
      simp only [Bool.and_eq_true] at g
      exact ⟨Prod.ext (ai_eq_iff.mp g.1) (ai_eq_iff.mp g.2.1), Nat.le_of_ble_eq_true g.2.2⟩
  have hWb : ∀ t z, ai_ylook W t = some z → z.1 < E.1 ∧ (ai_look E0.2.1 t).1 ≤ ai_vx r' z ∧ ai_vx r' z ≤ (ai_look E0.2.1 t).2 ∧ ai_lo64 ≤ ai_vx r' z ∧ ai_vx r' z ≤ ai_hi64 := fun t z hz => by
    have hm : (t, z) ∈ W := by
      clear h1 h2 h3 h4 h6
      induction W with
      | nil => cases hz
      | cons q W ih =>
        obtain ⟨u, x⟩ := q
        rw [ai_ylook_c] at hz
        split at hz
        · rename_i e
          cases hz
          rw [Nat.eq_of_beq_eq_true e]
          exact List.mem_cons_self
        · exact List.mem_cons_of_mem _ (ih hz)
    have g := List.all_eq_true.mp h6 _ hm
    rw [fz_look_eq] at g
    exact cx_bd_ok hE g
  have hid : ∀ t, ai_ylook W t = none → cx_r r' W t = r' t := fun t ht => by
    unfold cx_r
    rw [ht]
  have his : ∀ t z, ai_ylook W t = some z → cx_r r' W t = ai_vx r' z := fun t z ht => by
    unfold cx_r
    rw [ht]
  have hE2 : ai_gE (cx_r r' W) E0 := by
    refine ⟨(hid 0 h4).trans hE.1, hE0.2.1, fun t ht => ?_, fun q hq => ?_, fun q hq => ?_⟩
    · cases e : ai_ylook W t with
      | some z =>
        rw [his t z e]
        exact (hWb t z e).2.2.2
      | none =>
        rw [hid t e, hx t ht]
        exact hE0.2.2.1 t ht
    · obtain ⟨k1, k2⟩ := hlook q hq
      refine ⟨k2, ?_⟩
      cases e : ai_ylook W q.1 with
      | some z =>
        have b := (hWb q.1 z e).2
        rw [k1] at b
        rw [his _ z e]
        exact ⟨b.1, b.2.1⟩
      | none =>
        rw [hid _ e, hx q.1 k2]
        exact (hE0.2.2.2.1 q hq).2
    · rw [hnd] at hq
      cases hq
  have hcell : ∀ k, cx_o E W (ai_cell h k) (ai_cell h0 k) = true := fun k => cx_get h1 k
  have hH : ai_gH tyc r' ad E.1 ws h ws1 := hH
  refine ⟨ws1, hP, hD, hS, hE2, ⟨by have := hH.1; rw [h5] at this; rw [w3]; exact this, hH.2.1, fun k hk c hc => ?_, fun k hk hc => ?_⟩, fun q hq c hc => ?_, hsa, ?_, ?_⟩
  · have hk : k + 16 < h0.1 := hk
    rw [w3] at hk
    have hc : ai_cell h0 (k + 16) = some c := hc
    have g := hcell (k + 16)
    rw [hc] at g
    cases ea : ai_cell h (k + 16) with
    | none =>
      rw [ea] at g
      cases g
    | some a =>
      rw [ea] at g
      obtain ⟨e, e1, e2⟩ := hH.2.2.1 k (by rw [h5]; exact hk) a ea
      rw [h5] at e2
      refine ⟨e, e1, ?_⟩
      show ai_gC tyc (cx_r r' W) ad E0.1 h0.1 c e
      rw [w3]
      exact cx_c_ok hE g (hwC _ _ hk hc) e2
  · have hk : k + 16 < h0.1 := hk
    rw [w3] at hk
    have hc : ai_cell h0 (k + 16) = none := hc
    have g := hcell (k + 16)
    rw [hc] at g
    cases ea : ai_cell h (k + 16) with
    | none => exact hH.2.2.2 k (by rw [h5]; exact hk) ea
    | some a =>
      rw [ea] at g
      cases g
  · have hc : ai_cell h0 q = some c := hc
    rw [w4 q hq] at hc
    cases hc
  · show ai_gL (cx_r r' W) ad E0.1 h0.1 nL L0 ls
    rw [w3]
    have hL : ai_gL r' ad E.1 h.1 nL L ls := hL
    rw [h5] at hL
    exact pt_gL h2 hwL hL
  · show ai_gF (cx_r r' W) ad E0.1 h0.1 S0 st
    rw [w3]
    have hSt : ai_gF r' ad E.1 h.1 S st := hSt
    rw [h5] at hSt
    exact pt_gS h3 hwS hSt
/-- the numbers may be told anew where they are the same -/
theorem pt_val (hun : pt_un E0 = true) (hR : ai_Rel D tyc A s sa ws nL r ad L S (E0, h0, c1, s1) H locs ls st) (h : ∀ t, t < E0.1 → r2 t = r t) : ai_Rel D tyc A s sa ws nL r2 ad L S (E0, h0, c2, s2) H locs ls st := by
  unfold pt_un at hun
  rw [Bool.and_eq_true] at hun
  obtain ⟨hu, hnd⟩ := hun
  have hnd := List.isEmpty_iff.mp hnd
  have hE : ai_gE r E0 := hR.env
  have key := hR.re (E' := E0) (r' := r2) (S' := S) (st' := st) h (Nat.le_refl _) ⟨(h 0 hE.2.1).trans hE.1, hE.2.1, fun t ht => by
    rw [h t ht]
    exact hE.2.2.1 t ht, fun q hq => ⟨(hE.2.2.2.1 q hq).1, by
    rw [h _ (hE.2.2.2.1 q hq).1]
    exact (hE.2.2.2.1 q hq).2⟩, fun q hq => by
    rw [hnd] at hq
    cases hq⟩ (hR.stk.mono h ai_ext.rfl' (Nat.le_refl _) (Nat.le_refl _))
  exact key
end PTB
