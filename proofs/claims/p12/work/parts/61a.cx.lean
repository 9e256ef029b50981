/-! A STATE WITHIN THE HEAD'S: the head's own -/
theorem lx_h16 : (List.range 16).all (fun q => (ai_cell lx_h q).isNone) = true := by decide +kernel
theorem lx_no16 : ∀ q, q < 16 → ai_cell lx_h q = none := fun q hq => Option.isNone_iff_eq_none.mp (List.all_eq_true.mp lx_h16 q (List.mem_range.mpr hq))
/-! the head's own: its numbers' bounds one by one; which bounds another variant has otherwise -/
noncomputable def cx_un (v : Nat) : Bool := (lx_El v 0).2.1.all (fun q => match fz_look (lx_El v 0).2.1 q.1 with | (a, b) => ai_eq a q.2.1 && (ai_eq b q.2.2 && Nat.blt q.1 (lx_El v 0).1))
noncomputable def cx_dv (D : List Nat) (v v2 : Nat) : Bool := (lx_El v2 0).2.1.all (fun q => D.any (fun t => Nat.beq t q.1) || (match fz_look (lx_El v 1).2.1 q.1 with | (a, b) => ai_le q.2.1 a && ai_le b q.2.2))
noncomputable def cx_wf : Bool := xs_wh (lx_nn 0 + 1) lx_h && lx_L.all (sm_wv (lx_nn 0 + 1) 336)
theorem cx_wf_ok : cx_wf = true := by decide +kernel
theorem cx_u0 : cx_un 0 = true := by decide +kernel
theorem cx_u1 : cx_un 1 = true := by decide +kernel
theorem cx_u2 : cx_un 2 = true := by decide +kernel
theorem cx_u3 : cx_un 3 = true := by decide +kernel
theorem cx_u4 : cx_un 4 = true := by decide +kernel
theorem cx_u : ∀ v, cx_un v = true := fun v => match v with
  | 0 => cx_u0
  | 1 => cx_u1
  | 2 => cx_u2
  | 3 => cx_u3
  | _ + 4 => cx_u4
noncomputable def cx_bds (v2 : Nat) (E : ai_E) (W : List (Nat × ai_X)) (D : List Nat) : Bool := W.all (fun q => cx_bd E q.2 (fz_look (lx_El v2 0).2.1 q.1)) && D.all (fun t => (fz_ylook W t).isSome || cx_bd E (t, 0) (fz_look (lx_El v2 0).2.1 t))
noncomputable def cx_go (v2 : Nat) (D : List Nat) (L S : List ai_V) (G : ai_G) (o : List (Nat × ai_X)) (W : List (Nat × ai_X)) : Bool := (o.all (fun q => cx_q (cx_im W (q.1, 0)) q.2) && ((fz_ylook W 0).isNone && Nat.beq G.2.1.1 336)) && ((cx_vs W L lx_L && S.isEmpty) && (cx_bds v2 G.1 W D && cx_t G.1 W 9 G.2.1.2 lx_h.2))
noncomputable def cx_to (v2 : Nat) (D : List Nat) (P : List (Nat × Nat × Nat)) (L S : List ai_V) (G : ai_G) (o : List (Nat × ai_X)) : Bool := cx_go v2 D L S G o (cx_ws L G.2.1 P)
theorem cx_gL {r : Nat → Int} {ad : Nat → Nat} {N N' n nL : Nat} {W : List (Nat × ai_X)} {L : List ai_V} {ls : Array Slot} (h : cx_vs W L lx_L = true) (hw : ∀ b ∈ lx_L, ai_wfV N' n b) (g : ai_gL r ad N n nL L ls) : ai_gL (cx_r r W) ad N' n nL lx_L ls := by
  have key : ∀ {l m : List ai_V}, cx_vs W l m = true → l.length = m.length ∧ ∀ i, cx_v W (ai_lget l i) (ai_lget m i) = true := by
    intro l
    induction l with
    | nil =>
      intro m h
      cases m with
      | nil => exact ⟨rfl, fun i => rfl⟩
      | cons b m => cases h
    | cons a l ih =>
      intro m h
      cases m with
      | nil => cases h
      | cons b m =>
        obtain ⟨h1, h2⟩ := cx_br (show Bool.rec (motive := fun _ => Bool) false (cx_vs W l m) (cx_v W a b) = true from h)
        obtain ⟨k1, k2⟩ := ih h2
        refine ⟨by rw [List.length_cons, List.length_cons, k1], fun i => ?_⟩
        cases i with
        | zero => exact h1
        | succ i => exact k2 i
  have wf : ∀ {m : List ai_V}, (∀ b ∈ m, ai_wfV N' n b) → ∀ i, ai_wfV N' n (ai_lget m i) := by
    intro m
    induction m with
    | nil => intro _ i; cases i <;> exact trivial
    | cons b m ih =>
      intro h i
      cases i with
      | zero => exact h _ List.mem_cons_self
      | succ i => exact ih (fun z hz => h z (List.mem_cons_of_mem _ hz)) i
  obtain ⟨g1, g2, g3, g4⟩ := g
  obtain ⟨k1, k2⟩ := key h
  refine ⟨k1.symm.trans g1, g2, g3, fun i hi => ?_⟩
  have hne : ai_lget L i ≠ .inr (.inr none) := fun q => by
    have := k2 i
    rw [q] at this
    rcases eb : ai_lget lx_L i with w | w | _ | _ | z
    · rw [eb] at this; cases this
    · rw [eb] at this; cases this
    · exact hi eb
    · rw [eb] at this; cases this
    · rw [eb] at this; cases this
  obtain ⟨v, v1, v2⟩ := g4 i hne
  exact ⟨v, v1, cx_v_ok (k2 i) (wf hw i) v2⟩
set_option maxHeartbeats 1000000 in
theorem cx_ok {s : State} {D : va_G} {tyc : Nat → ClassId} {A : Nat → Prop} {sa : ai_B} {ws : va_W} {nL v v2 : Nat} {r0 r : Nat → Int} {ad : Nat → Nat} {L S : List ai_V} {G : ai_G} {H : Heap} {locs : List Loc} {ls : Array Slot} {st : List Value} {Dl : List Nat} {P : List (Nat × Nat × Nat)} {o : List (Nat × ai_X)}
    (hE0 : ai_gE r0 (lx_El v 1)) (hx : ai_ext (lx_El v 1).1 r0 r) (hdv : cx_dv Dl v v2 = true) (hR : ai_Rel D tyc A s sa ws nL r ad L S G H locs ls st) (h : cx_to v2 Dl P L S G o = true) : ∃ r2, ai_Rel D tyc A s sa ws nL r2 ad lx_L [] (lx_G v2 0) H locs ls st ∧ ∀ q ∈ o, r2 q.1 = ai_vx r q.2 := by
  unfold cx_to at h
  generalize cx_ws L G.2.1 P = W at h
  unfold cx_go at h
  simp only [Bool.and_eq_true] at h
  obtain ⟨⟨h7, h4, h5⟩, ⟨h2, h3⟩, h6, h1⟩ := h
  have h5 := Nat.eq_of_beq_eq_true h5
  rw [Option.isNone_iff_eq_none, fz_ylook_eq] at h4
  unfold cx_bds at h6
  rw [Bool.and_eq_true] at h6
  obtain ⟨ws1, hP, hD, hS, hE, hH, hO, hsa, hL, hSt⟩ := hR
  have hN2 : (lx_El v2 0).1 = lx_nn 0 + 1 := (lx_El_eq v2 0).2.2
  have hN1 : (lx_El v 1).1 = lx_nn 1 + 1 := (lx_El_eq v 1).2.2
  have hlt : lx_nn 0 ≤ lx_nn 1 := by decide +kernel
  have hwf := cx_wf_ok
  unfold cx_wf at hwf
  rw [Bool.and_eq_true, xs_wh_eq] at hwf
  have hwC : ∀ k d, k < 336 → ai_cell lx_h k = some d → ai_wfC (lx_nn 0 + 1) 336 d := sm_wh_ok (h := lx_h) hwf.1
  have hwL : ∀ b ∈ lx_L, ai_wfV (lx_nn 0 + 1) 336 b := fun b hb => sm_wv_ok (List.all_eq_true.mp hwf.2 b hb)
  have hu := cx_u v2
  unfold cx_un at hu
  have hlook : ∀ q ∈ (lx_El v2 0).2.1, ai_look (lx_El v2 0).2.1 q.1 = q.2 ∧ q.1 < (lx_El v2 0).1 := fun q hq => by
    have g := List.all_eq_true.mp hu q hq
    rw [fz_look_eq] at g
    cases e : ai_look (lx_El v2 0).2.1 q.1 with
    | mk a b =>
      rw [e] at g
      simp only [Bool.and_eq_true] at g
      exact ⟨Prod.ext (ai_eq_iff.mp g.1) (ai_eq_iff.mp g.2.1), Nat.le_of_ble_eq_true g.2.2⟩
  have hWb : ∀ t z, ai_ylook W t = some z → z.1 < G.1.1 ∧ (ai_look (lx_El v2 0).2.1 t).1 ≤ ai_vx r z ∧ ai_vx r z ≤ (ai_look (lx_El v2 0).2.1 t).2 ∧ ai_lo64 ≤ ai_vx r z ∧ ai_vx r z ≤ ai_hi64 := fun t z hz => by
    have hm : (t, z) ∈ W := by
      clear h1 h2 h4 h6 h7
      induction W with
      | nil => cases hz
      | cons q W ih =>
        obtain ⟨u, x⟩ := q
        rw [ai_ylook_c] at hz
        split at hz
        · rename_i e
          cases hz
          rw [Nat.eq_of_beq_eq_true e]
          exact List.mem_cons_self
        · exact List.mem_cons_of_mem _ (ih hz)
    have g := List.all_eq_true.mp h6.1 _ hm
    rw [fz_look_eq] at g
    exact cx_bd_ok hE g
  have hid : ∀ t, ai_ylook W t = none → cx_r r W t = r t := fun t ht => by
    unfold cx_r
    rw [ht]
  have his : ∀ t z, ai_ylook W t = some z → cx_r r W t = ai_vx r z := fun t z ht => by
    unfold cx_r
    rw [ht]
  have hE2 : ai_gE (cx_r r W) (lx_El v2 0) := by
    refine ⟨(hid 0 h4).trans hE.1, by rw [hN2]; exact Nat.succ_pos _, fun t ht => ?_, fun q hq => ?_, fun q hq => ?_⟩
    · cases e : ai_ylook W t with
      | some z =>
        rw [his t z e]
        exact (hWb t z e).2.2.2
      | none =>
        have ht1 : t < (lx_El v 1).1 := by rw [hN1]; rw [hN2] at ht; omega
        rw [hid t e, hx t ht1]
        exact hE0.2.2.1 t ht1
    · obtain ⟨k1, k2⟩ := hlook q hq
      refine ⟨k2, ?_⟩
      cases e : ai_ylook W q.1 with
      | some z =>
        have b := (hWb q.1 z e).2
        rw [k1] at b
        rw [his _ z e]
        exact ⟨b.1, b.2.1⟩
      | none =>
        rw [hid _ e]
        unfold cx_dv at hdv
        have g := List.all_eq_true.mp hdv q hq
        rw [Bool.or_eq_true] at g
        rcases g with g | g
        · obtain ⟨t, t1, t2⟩ := List.any_eq_true.mp g
          have t2 := Nat.eq_of_beq_eq_true t2
          subst t2
          have g2 := List.all_eq_true.mp h6.2 _ t1
          rw [fz_ylook_eq, e, fz_look_eq, k1] at g2
          have g3 := (cx_bd_ok hE (x := (q.1, 0)) (b := q.2) g2).2
          have e0 : ai_vx r (q.1, 0) = r q.1 := Int.add_zero _
          rw [e0] at g3
          exact ⟨g3.1, g3.2.1⟩
        · rw [fz_look_eq] at g
          have ht1 : q.1 < (lx_El v 1).1 := by rw [hN1]; rw [hN2] at k2; omega
          have b := ai_look_ok (r := r0) (l := (lx_El v 1).2.1) (fun z hz => (hE0.2.2.2.1 z hz).2) q.1 (hE0.2.2.1 _ ht1)
          rw [hx _ ht1]
          cases el : ai_look (lx_El v 1).2.1 q.1 with
          | mk a b' =>
            rw [el] at g b
            simp only [Bool.and_eq_true] at g
            have g1 := ai_le_iff.mp g.1
            have g2 := ai_le_iff.mp g.2
            have b1 : a ≤ r0 q.1 := b.1
            have b2 : r0 q.1 ≤ b' := b.2
            omega
    · have hnd : (lx_El v2 0).2.2 = [] := by
        rw [(lx_El_eq v2 0).1]
        rfl
      rw [hnd] at hq
      cases hq
  have hcell : ∀ k, cx_o G.1 W (ai_cell G.2.1 k) (ai_cell lx_h k) = true := fun k => cx_get h1 k
  have hSn : S = [] := List.isEmpty_iff.mp h3
  subst hSn
  refine ⟨cx_r r W, ⟨ws1, hP, hD, hS, hE2, ⟨by have := hH.1; rw [h5] at this; exact this, hH.2.1, fun k hk c hc => ?_, fun k hk hc => ?_⟩, fun q hq c hc => ?_, hsa, ?_, ?_⟩, fun q hq => ?_⟩
  · have hk : k + 16 < 336 := hk
    have hc : ai_cell lx_h (k + 16) = some c := hc
    have g := hcell (k + 16)
    rw [hc] at g
    cases ea : ai_cell G.2.1 (k + 16) with
    | none =>
      rw [ea] at g
      cases g
    | some a =>
      rw [ea] at g
      obtain ⟨e, e1, e2⟩ := hH.2.2.1 k (by rw [h5]; exact hk) a ea
      rw [h5] at e2
      refine ⟨e, e1, ?_⟩
      show ai_gC tyc (cx_r r W) ad (lx_El v2 0).1 336 c e
      rw [hN2]
      exact cx_c_ok hE g (hwC _ _ hk hc) e2
  · have hk : k + 16 < 336 := hk
    have hc : ai_cell lx_h (k + 16) = none := hc
    have g := hcell (k + 16)
    rw [hc] at g
    cases ea : ai_cell G.2.1 (k + 16) with
    | none => exact hH.2.2.2 k (by rw [h5]; exact hk) ea
    | some a =>
      rw [ea] at g
      cases g
  · have hc : ai_cell lx_h q = some c := hc
    rw [lx_no16 q hq] at hc
    cases hc
  · show ai_gL (cx_r r W) ad (lx_El v2 0).1 336 nL lx_L ls
    rw [hN2]
    rw [h5] at hL
    exact cx_gL h2 hwL hL
  · cases st with
    | nil => exact hSt
    | cons a l => exact hSt.elim
  · have g := cx_q_ok (List.all_eq_true.mp h7 q hq)
    have e : ai_vx (cx_r r W) (q.1, 0) = ai_vx r (cx_im W (q.1, 0)) := cx_vx _
    rw [g] at e
    rw [← e]
    show cx_r r W q.1 = cx_r r W q.1 + 0
    rw [Int.add_zero]
