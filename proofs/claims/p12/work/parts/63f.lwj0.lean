/-! THE LAW: kinds by what the script and the world really have, with the invariant (printed by jspec8.py) -/
noncomputable def lx_z0 : ai_G := hg_cap (lx_E5, lx_h, 0, 0) 1 (0, 5110)
/-- a kind's runs, each with one box for one place of the script (its first behind a sheet's, a night's quarter) -/
noncomputable def lx_kap (w : Nat) : Int := match Nat.beq w 22 with
  | true => 1
  | false => 2
theorem lx_kapb (w : Nat) : 0 ≤ lx_kap w ∧ lx_kap w ≤ 9 := by
  unfold lx_kap
  cases Nat.beq w 22 <;> decide
noncomputable def lx_b2 (w : Nat) (B : Int → List (Int × Int)) (b : Int × Int) : Int → List (Int × Int) := fun k => if k = lx_kap w then [b] else B k
noncomputable def lx_zckA (w : Nat) (T : List (Nat × us_C)) (B : Int → List (Int × Int)) (rd : List (Int × ai_X)) (ck : ai_F → Bool) (G : ai_G) (b : Int × Int) : Bool := match lx_runA T (lx_b2 w B b) [23] 16 rd false 40 lx_L [.inl (0, .ofNat w)] G with
  | some fs => fs.all ck
  | none => false
noncomputable def lx_zck (w : Nat) (T : List (Nat × us_C)) (B : Int → List (Int × Int)) (rd : List (Int × ai_X)) (ck : ai_F → Bool) (G : ai_G) : Bool := (List.range 10).all (fun k => bx_cov ai_lo32 (B (.ofNat k))) && (B (lx_kap w)).all (lx_zckA w T B rd ck G)
theorem lx_zck_of {w : Nat} {T : List (Nat × us_C)} {B : Int → List (Int × Int)} {rd : List (Int × ai_X)} {ck : ai_F → Bool} {G : ai_G} {l : List (Int × Int)} (hc : (List.range 10).all (fun k => bx_cov ai_lo32 (B (.ofNat k))) = true) (hl : B (lx_kap w) = l) (h : l.all (lx_zckA w T B rd ck G) = true) : lx_zck w T B rd ck G = true := by
  unfold lx_zck
  rw [hl, h, Bool.and_true]
  exact hc
theorem lx_ac {α : Type} {f : α → Bool} {a : α} {l : List α} (h : f a = true) (g : l.all f = true) : (a :: l).all f = true := by
  rw [List.all_cons, h, g]
  rfl
theorem lx_an {α : Type} {f : α → Bool} : ([] : List α).all f = true := rfl
theorem lx_zmb : (74, ((0 : Int), (12 : Int))) ∈ lx_E5.2.1 := by decide +kernel
/-! the invariant behind a call, by what its numbers stand for -/
noncomputable def lx_jW (C : List Nat) (P : List (Nat × Nat × Nat)) (f : ai_F) : List (Nat × ai_X) := match so_G C f.2.2.2 with
  | some G => cx_ws f.2.1 G.2.1 P
  | none => []
noncomputable def lx_jw (W : List (Nat × ai_X)) : List (Nat × ai_X) := lx_Jt.map (fun t => (t, cx_im W (t, 0)))
noncomputable def lx_jno (E : ai_E) (a b : ai_X) : Bool := cx_bd E a ((fz_iv E a).1, ai_hi64) && cx_bd E b (ai_lo64, (fz_iv E a).1 - 1)
noncomputable def lx_jc2 (E : ai_E) (c : ai_X × ai_X × ai_X × ai_X) (a b x y : ai_X) : Bool := cx_q x y || (lx_jno E a b || ((cx_q x c.2.2.1 && cx_q y c.2.2.2) && ((Nat.beq a.1 c.1.1 && ai_le c.1.2 a.2) && (Nat.beq b.1 c.2.1.1 && ai_le b.2 c.2.1.2))))
noncomputable def lx_jck (E : ai_E) (W : List (Nat × ai_X)) : Bool := lx_jcl.all (fun c => lx_jc2 E c (cx_im W c.1) (cx_im W c.2.1) (cx_im W c.2.2.1) (cx_im W c.2.2.2))
theorem lx_jno_ok {r : Nat → Int} {E : ai_E} {a b : ai_X} (hE : ai_gE r E) (h : lx_jno E a b = true) : ¬ (ai_vx r a ≤ ai_vx r b) := by
  unfold lx_jno at h
  rw [Bool.and_eq_true] at h
  have h1 := (cx_bd_ok hE h.1).2.1
  have h2 := (cx_bd_ok hE h.2).2.2.1
  have h1 : (fz_iv E a).1 ≤ ai_vx r a := h1
  have h2 : ai_vx r b ≤ (fz_iv E a).1 - 1 := h2
  omega
theorem lx_jck_ok {r r' r2 : Nat → Int} {E : ai_E} {W : List (Nat × ai_X)} (hE : ai_gE r' E) (hJ : lx_J r) (x1 : ai_ext 382 r r') (h : lx_jck E W = true) (u : ∀ t ∈ lx_Jt, r2 t = ai_vx r' (cx_im W (t, 0))) : lx_J r2 := fun c hc hg => by
  obtain ⟨h1, h2, h3, h4⟩ := lx_jt hc
  have im : ∀ x : ai_X, cx_im W x = ((cx_im W (x.1, 0)).1, (cx_im W (x.1, 0)).2 + x.2) := fun x => by
    unfold cx_im
    show Option.rec (motive := fun _ => ai_X) x (fun z => (z.1, z.2 + x.2)) (fz_ylook W x.1) = _
    cases fz_ylook W x.1 with
    | none =>
      show x = (x.1, (0 : Int) + x.2)
      rw [Int.zero_add]
    | some z =>
      show (z.1, z.2 + x.2) = (z.1, z.2 + 0 + x.2)
      rw [Int.add_zero]
  have key : ∀ x : ai_X, x.1 ∈ lx_Jt → ai_vx r2 x = ai_vx r' (cx_im W x) := fun x hx => by
    rw [im x]
    show r2 x.1 + x.2 = r' (cx_im W (x.1, 0)).1 + ((cx_im W (x.1, 0)).2 + x.2)
    rw [u _ hx]
    show r' (cx_im W (x.1, 0)).1 + (cx_im W (x.1, 0)).2 + x.2 = _
    omega
  have lt : ∀ t ∈ lx_Jt, t < 382 := fun t ht => by
    have g : lx_Jt.all (fun t => Nat.blt t 382) = true := by decide +kernel
    exact Nat.le_of_ble_eq_true (List.all_eq_true.mp g t ht)
  rw [key _ h1, key _ h2] at hg
  rw [key _ h3, key _ h4]
  have hck := List.all_eq_true.mp h c hc
  unfold lx_jc2 at hck
  rw [Bool.or_eq_true, Bool.or_eq_true] at hck
  rcases hck with q | q | q
  · rw [cx_q_ok q]
  · exact absurd hg (lx_jno_ok hE q)
  · simp only [Bool.and_eq_true] at q
    obtain ⟨⟨q1, q2⟩, ⟨q3, q4⟩, q5, q6⟩ := q
    have q1 := cx_q_ok q1
    have q2 := cx_q_ok q2
    have q3 := Nat.eq_of_beq_eq_true q3
    have q5 := Nat.eq_of_beq_eq_true q5
    have q4 := ai_le_iff.mp q4
    have q6 := ai_le_iff.mp q6
    rw [q1, q2]
    have g1 : ai_vx r' (cx_im W c.1) = r c.1.1 + (cx_im W c.1).2 := by
      show r' (cx_im W c.1).1 + (cx_im W c.1).2 = _
      rw [q3, x1 _ (lt _ h1)]
    have g2 : ai_vx r' (cx_im W c.2.1) = r c.2.1.1 + (cx_im W c.2.1).2 := by
      show r' (cx_im W c.2.1).1 + (cx_im W c.2.1).2 = _
      rw [q5, x1 _ (lt _ h2)]
    have g3 : ∀ x : ai_X, x.1 ∈ lx_Jt → ai_vx r' x = ai_vx r x := fun x hx => by
      show r' x.1 + x.2 = r x.1 + x.2
      rw [x1 _ (lt _ hx)]
    rw [g3 _ h3, g3 _ h4]
    rw [g1, g2] at hg
    exact hJ c hc (by show r c.1.1 + c.1.2 ≤ r c.2.1.1 + c.2.1.2; omega)
theorem cx_okW {s : State} {D : va_G} {tyc : Nat → ClassId} {A : Nat → Prop} {sa : ai_B} {ws : va_W} {nL v v2 : Nat} {r0 r : Nat → Int} {ad : Nat → Nat} {L S : List ai_V} {G : ai_G} {H : Heap} {locs : List Loc} {ls : Array Slot} {st : List Value} {Dl : List Nat} {P : List (Nat × Nat × Nat)} {o : List (Nat × ai_X)}
    (hE0 : ai_gE r0 (lx_El v 1)) (hx : ai_ext (lx_El v 1).1 r0 r) (hdv : cx_dv Dl v v2 = true) (hR : ai_Rel D tyc A s sa ws nL r ad L S G H locs ls st) (h : cx_to v2 Dl P L S G o = true) : ai_Rel D tyc A s sa ws nL (cx_r r (cx_ws L G.2.1 P)) ad lx_L [] (lx_G v2 0) H locs ls st ∧ ∀ q ∈ o, cx_r r (cx_ws L G.2.1 P) q.1 = ai_vx r q.2 := by
  unfold cx_to at h
  generalize cx_ws L G.2.1 P = W at h ⊢
  unfold cx_go at h
  simp only [Bool.and_eq_true] at h
  obtain ⟨⟨h7, h4, h5⟩, ⟨h2, h3⟩, h6, h1⟩ := h
  have h5 := Nat.eq_of_beq_eq_true h5
  rw [Option.isNone_iff_eq_none, fz_ylook_eq] at h4
  unfold cx_bds at h6
  rw [Bool.and_eq_true] at h6
  obtain ⟨ws1, hP, hD, hS, hE, hH, hO, hsa, hL, hSt⟩ := hR
  have hN2 : (lx_El v2 0).1 = lx_nn 0 + 1 := (lx_El_eq v2 0).2.2
  have hN1 : (lx_El v 1).1 = lx_nn 1 + 1 := (lx_El_eq v 1).2.2
  have hlt : lx_nn 0 ≤ lx_nn 1 := by decide +kernel
  have hwf := cx_wf_ok
  unfold cx_wf at hwf
  rw [Bool.and_eq_true, xs_wh_eq] at hwf
  have hwC : ∀ k d, k < 336 → ai_cell lx_h k = some d → ai_wfC (lx_nn 0 + 1) 336 d := sm_wh_ok (h := lx_h) hwf.1
  have hwL : ∀ b ∈ lx_L, ai_wfV (lx_nn 0 + 1) 336 b := fun b hb => sm_wv_ok (List.all_eq_true.mp hwf.2 b hb)
  have hu := cx_u v2
  unfold cx_un at hu
  have hlook : ∀ q ∈ (lx_El v2 0).2.1, ai_look (lx_El v2 0).2.1 q.1 = q.2 ∧ q.1 < (lx_El v2 0).1 := fun q hq => by
    have g := List.all_eq_true.mp hu q hq
    rw [fz_look_eq] at g
    cases e : ai_look (lx_El v2 0).2.1 q.1 with
    | mk a b =>
      rw [e] at g
      simp only [Bool.and_eq_true] at g
      exact ⟨Prod.ext (ai_eq_iff.mp g.1) (ai_eq_iff.mp g.2.1), Nat.le_of_ble_eq_true g.2.2⟩
  have hWb : ∀ t z, ai_ylook W t = some z → z.1 < G.1.1 ∧ (ai_look (lx_El v2 0).2.1 t).1 ≤ ai_vx r z ∧ ai_vx r z ≤ (ai_look (lx_El v2 0).2.1 t).2 ∧ ai_lo64 ≤ ai_vx r z ∧ ai_vx r z ≤ ai_hi64 := fun t z hz => by
    have hm : (t, z) ∈ W := by
      clear h1 h2 h4 h6 h7
      induction W with
      | nil => cases hz
      | cons q W ih =>
        obtain ⟨u, x⟩ := q
        rw [ai_ylook_c] at hz
        split at hz
        · rename_i e
          cases hz
          rw [Nat.eq_of_beq_eq_true e]
          exact List.mem_cons_self
        · exact List.mem_cons_of_mem _ (ih hz)
    have g := List.all_eq_true.mp h6.1 _ hm
    rw [fz_look_eq] at g
    exact cx_bd_ok hE g
  have hid : ∀ t, ai_ylook W t = none → cx_r r W t = r t := fun t ht => by
    unfold cx_r
    rw [ht]
  have his : ∀ t z, ai_ylook W t = some z → cx_r r W t = ai_vx r z := fun t z ht => by
    unfold cx_r
    rw [ht]
  have hE2 : ai_gE (cx_r r W) (lx_El v2 0) := by
    refine ⟨(hid 0 h4).trans hE.1, by rw [hN2]; exact Nat.succ_pos _, fun t ht => ?_, fun q hq => ?_, fun q hq => ?_⟩
    · cases e : ai_ylook W t with
      | some z =>
        rw [his t z e]
        exact (hWb t z e).2.2.2
      | none =>
        have ht1 : t < (lx_El v 1).1 := by rw [hN1]; rw [hN2] at ht; omega
        rw [hid t e, hx t ht1]
        exact hE0.2.2.1 t ht1
    · obtain ⟨k1, k2⟩ := hlook q hq
      refine ⟨k2, ?_⟩
      cases e : ai_ylook W q.1 with
      | some z =>
        have b := (hWb q.1 z e).2
        rw [k1] at b
        rw [his _ z e]
        exact ⟨b.1, b.2.1⟩
      | none =>
        rw [hid _ e]
        unfold cx_dv at hdv
        have g := List.all_eq_true.mp hdv q hq
        rw [Bool.or_eq_true] at g
        rcases g with g | g
        · obtain ⟨t, t1, t2⟩ := List.any_eq_true.mp g
          have t2 := Nat.eq_of_beq_eq_true t2
          subst t2
          have g2 := List.all_eq_true.mp h6.2 _ t1
          rw [fz_ylook_eq, e, fz_look_eq, k1] at g2
          have g3 := (cx_bd_ok hE (x := (q.1, 0)) (b := q.2) g2).2
          have e0 : ai_vx r (q.1, 0) = r q.1 := Int.add_zero _
          rw [e0] at g3
          exact ⟨g3.1, g3.2.1⟩
        · rw [fz_look_eq] at g
          have ht1 : q.1 < (lx_El v 1).1 := by rw [hN1]; rw [hN2] at k2; omega
          have b := ai_look_ok (r := r0) (l := (lx_El v 1).2.1) (fun z hz => (hE0.2.2.2.1 z hz).2) q.1 (hE0.2.2.1 _ ht1)
          rw [hx _ ht1]
          cases el : ai_look (lx_El v 1).2.1 q.1 with
          | mk a b' =>
            rw [el] at g b
            simp only [Bool.and_eq_true] at g
            have g1 := ai_le_iff.mp g.1
            have g2 := ai_le_iff.mp g.2
            have b1 : a ≤ r0 q.1 := b.1
            have b2 : r0 q.1 ≤ b' := b.2
            omega
    · have hnd : (lx_El v2 0).2.2 = [] := by
        rw [(lx_El_eq v2 0).1]
        rfl
      rw [hnd] at hq
      cases hq
  have hcell : ∀ k, cx_o G.1 W (ai_cell G.2.1 k) (ai_cell lx_h k) = true := fun k => cx_get h1 k
  have hSn : S = [] := List.isEmpty_iff.mp h3
  subst hSn
  refine ⟨⟨ws1, hP, hD, hS, hE2, ⟨by have := hH.1; rw [h5] at this; exact this, hH.2.1, fun k hk c hc => ?_, fun k hk hc => ?_⟩, fun q hq c hc => ?_, hsa, ?_, ?_⟩, fun q hq => ?_⟩
  · have hk : k + 16 < 336 := hk
    have hc : ai_cell lx_h (k + 16) = some c := hc
    have g := hcell (k + 16)
    rw [hc] at g
    cases ea : ai_cell G.2.1 (k + 16) with
    | none =>
      rw [ea] at g
      cases g
    | some a =>
      rw [ea] at g
      obtain ⟨e, e1, e2⟩ := hH.2.2.1 k (by rw [h5]; exact hk) a ea
      rw [h5] at e2
      refine ⟨e, e1, ?_⟩
      show ai_gC tyc (cx_r r W) ad (lx_El v2 0).1 336 c e
      rw [hN2]
      exact cx_c_ok hE g (hwC _ _ hk hc) e2
  · have hk : k + 16 < 336 := hk
    have hc : ai_cell lx_h (k + 16) = none := hc
    have g := hcell (k + 16)
    rw [hc] at g
    cases ea : ai_cell G.2.1 (k + 16) with
    | none => exact hH.2.2.2 k (by rw [h5]; exact hk) ea
    | some a =>
      rw [ea] at g
      cases g
  · have hc : ai_cell lx_h q = some c := hc
    rw [lx_no16 q hq] at hc
    cases hc
  · show ai_gL (cx_r r W) ad (lx_El v2 0).1 336 nL lx_L ls
    rw [hN2]
    rw [h5] at hL
    exact cx_gL h2 hwL hL
  · cases st with
    | nil => exact hSt
    | cons a l => exact hSt.elim
  · have g := cx_q_ok (List.all_eq_true.mp h7 q hq)
    have e : ai_vx (cx_r r W) (q.1, 0) = ai_vx r (cx_im W (q.1, 0)) := cx_vx _
    rw [g] at e
    rw [← e]
    show cx_r r W q.1 = cx_r r W q.1 + 0
    rw [Int.add_zero]
theorem lx_fin_okW {s : State} {D : va_G} {tyc : Nat → ClassId} {A : Nat → Prop} {sa : ai_B} {ws : va_W} {nL v v2 : Nat} {r0 r : Nat → Int} {ad : Nat → Nat} {H : Heap} {locs : List Loc} {ls : Array Slot} {st : List Value} {C : List Nat} {P : List (Nat × Nat × Nat)} {Dl : List Nat} {o : List (Nat × ai_X)} {f : ai_F}
    (hE0 : ai_gE r0 (lx_El v 1)) (hx : ai_ext (lx_El v 1).1 r0 r) (hdv : cx_dv Dl v v2 = true) (h : lx_fin C P Dl v2 o f = true) (hR : ai_Rel D tyc A s sa ws nL r ad f.2.1 f.2.2.1 f.2.2.2 H locs ls st) : f.1 = 23 ∧ f.2.2.2.2.2.1 ≤ 1 ∧ f.2.2.2.2.2.2 ≤ 6 ∧ ai_Rel D tyc A s sa ws nL (cx_r r (lx_jW C P f)) ad lx_L [] (lx_G v2 0) H locs ls st ∧ ∀ q ∈ o, cx_r r (lx_jW C P f) q.1 = ai_vx r q.2 := by
  unfold lx_fin at h
  unfold lx_jW
  cases eG : so_G C f.2.2.2 with
  | none =>
    rw [eG] at h
    cases h
  | some G' =>
    rw [eG] at h
    simp only [Bool.and_eq_true] at h
    obtain ⟨⟨h1, h2, h3⟩, h4⟩ := h
    obtain ⟨a1, -⟩ := so_G_ok eG hR
    exact ⟨Nat.eq_of_beq_eq_true h1, Nat.le_of_ble_eq_true h2, Nat.le_of_ble_eq_true h3, cx_okW hE0 hx hdv a1 h4⟩
/-- the clauses that changed numbers touch -/
noncomputable def lx_jtp (P : List (Nat × Nat × Nat)) (c : ai_X × ai_X × ai_X × ai_X) : Bool := P.any (fun p => Nat.beq p.1 c.1.1 || (Nat.beq p.1 c.2.1.1 || (Nat.beq p.1 c.2.2.1.1 || Nat.beq p.1 c.2.2.2.1)))
noncomputable def lx_jcP (P : List (Nat × Nat × Nat)) : List (ai_X × ai_X × ai_X × ai_X) := lx_jcl.filter (lx_jtp P)
noncomputable def lx_jc3 (E : ai_E) (c : ai_X × ai_X × ai_X × ai_X) (a b x y : ai_X) : Bool := cx_q x y || (((cx_q x c.2.2.1 && cx_q y c.2.2.2) && ((Nat.beq a.1 c.1.1 && ai_le c.1.2 a.2) && (Nat.beq b.1 c.2.1.1 && ai_le b.2 c.2.1.2))) || lx_jno E a b)
noncomputable def lx_jckP (E : ai_E) (l : List (ai_X × ai_X × ai_X × ai_X)) (W : List (Nat × ai_X)) : Bool := l.all (fun c => lx_jc3 E c (cx_im W c.1) (cx_im W c.2.1) (cx_im W c.2.2.1) (cx_im W c.2.2.2))
theorem lx_yo {t : Nat} : ∀ {W : List (Nat × ai_X)}, (∀ q ∈ W, Nat.beq q.1 t = false) → ai_ylook W t = none
  | [], _ => rfl
  | (u, x) :: W, h => by
    rw [ai_ylook_c]
    have e : Nat.beq u t = false := h (u, x) List.mem_cons_self
    have e' := lx_yo (fun q hq => h q (List.mem_cons_of_mem _ hq))
    split
    · rename_i w
      rw [e] at w
      cases w
    · exact e'
theorem lx_imo {C : List Nat} {P : List (Nat × Nat × Nat)} {f : ai_F} {x : ai_X} (h : ∀ p ∈ P, Nat.beq p.1 x.1 = false) : cx_im (lx_jW C P f) x = x := by
  have e : ai_ylook (lx_jW C P f) x.1 = none := lx_yo (fun q hq => by
    unfold lx_jW at hq
    cases eG : so_G C f.2.2.2 with
    | none =>
      rw [eG] at hq
      cases hq
    | some G =>
      rw [eG] at hq
      obtain ⟨p, hp, rfl⟩ := List.mem_map.mp hq
      exact h p hp)
  unfold cx_im
  rw [fz_ylook_eq, e]
theorem lx_jckP_ok {E : ai_E} {C : List Nat} {P : List (Nat × Nat × Nat)} {f : ai_F} (h : lx_jckP E (lx_jcP P) (lx_jW C P f) = true) : lx_jck E (lx_jW C P f) = true := List.all_eq_true.mpr (fun c hc => by
  cases ht : lx_jtp P c with
  | true =>
    have g := List.all_eq_true.mp h c (List.mem_filter.mpr ⟨hc, ht⟩)
    unfold lx_jc3 at g
    unfold lx_jc2
    rw [Bool.or_eq_true, Bool.or_eq_true] at g ⊢
    rcases g with g | g | g
    · exact Or.inl g
    · exact Or.inr (Or.inr g)
    · exact Or.inr (Or.inl g)
  | false =>
    have key : ∀ p ∈ P, Nat.beq p.1 c.1.1 = false ∧ Nat.beq p.1 c.2.1.1 = false ∧ Nat.beq p.1 c.2.2.1.1 = false ∧ Nat.beq p.1 c.2.2.2.1 = false := fun p hp => by
      have g := List.any_eq_false.mp ht p hp
      simp only [Bool.or_eq_true, not_or, Bool.not_eq_true] at g
      exact g
    rw [lx_imo (x := c.1) (fun p hp => (key p hp).1), lx_imo (x := c.2.1) (fun p hp => (key p hp).2.1), lx_imo (x := c.2.2.1) (fun p hp => (key p hp).2.2.1), lx_imo (x := c.2.2.2) (fun p hp => (key p hp).2.2.2)]
    have q1 : ∀ x : ai_X, cx_q x x = true := fun x => by
      unfold cx_q
      rw [show Nat.beq x.1 x.1 = true from Nat.beq_refl x.1]
      exact ai_eq_iff.mpr rfl
    unfold lx_jc2
    rw [q1 c.2.2.1, q1 c.2.2.2, show Nat.beq c.1.1 c.1.1 = true from Nat.beq_refl _, show Nat.beq c.2.1.1 c.2.1.1 = true from Nat.beq_refl _, ai_le_iff.mpr (Int.le_refl c.1.2), ai_le_iff.mpr (Int.le_refl c.2.1.2)]
    simp)
noncomputable def lx_kJ (C : List Nat) (P : List (Nat × Nat × Nat)) (mx : ai_X) (f : ai_F) : Bool := lx_fin C P [] 0 [(1, (1, 10)), (73, mx)] f && (lx_jckP f.2.2.2.1 (lx_jcP P) (lx_jW C P f) && lx_Kt.all (fun t => P.all (fun p => !(Nat.beq p.1 t))))
section LZJ
variable {p : Program} {l : Launch} {e : Env} {R : Room} {s : State} {m : MethodId} {args : Array Value} {below : List Frame} {meth : Method} {c : Code} {Q : State → Prop}
variable {D : va_G} {tyc : Nat → ClassId} {A : Nat → Prop} {sa : ai_B} {ws : va_W} {b Ln z0 v k w : Nat} {xs : Nat → Int32}
variable {r r0 : Nat → Int} {ad : Nat → Nat} {H : Heap} {locs : List Loc} {ls : Array Slot} {st : List Value} {G : ai_G} {T : List (Nat × us_C)} {B : Int → List (Int × Int)} {rd : List (Int × ai_X)} {ck : ai_F → Bool}
set_option maxHeartbeats 2000000 in
theorem lx_goJ (F : lx_Fr p R s m args meth c D tyc A sa) (hl : l.stackTraces = false) (hT : lt_all 60 T) (hRf : 111 ≤ R.frames) (hRl : 8000 ≤ R.locals) (hsa : (z0, b, Ln, xs) ∈ sa.2) (hV : cl_V tyc ws r) (hvk : v ≤ k) (hk4 : k ≤ 4) (hi : 0 ≤ r 1 ∧ r 1 + 10 ≤ (Ln : Int)) (h110 : r 73 = (k : Int)) (had : ad 0 = b)
    (hck : lx_zck w T B rd ck G = true) (hRG : ai_Rel D tyc A s sa ws 7 r0 ad lx_L [.inl (0, .ofNat w)] G H locs ls st) (hx0 : ai_ext 382 r r0) (hG : 382 ≤ G.1.1) (h0 : 0 < G.2.1.1) (hrd : ∀ q ∈ rd, ai_vx r0 q.2 = (xs (r 1 + q.1).toNat).toInt) (hrl : ∀ q ∈ rd, q.2.1 < G.1.1)
    (hend : ∀ (f : ai_F) (r' : Nat → Int) (ad' : Nat → Nat) (H' : Heap) (locs' : List Loc) (ls' : Array Slot) (st' : List Value), ck f = true → ai_ext G.1.1 r0 r' → ai_Rel D tyc A s sa ws 7 r' ad' f.2.1 f.2.2.1 f.2.2.2 H' locs' ls' st' → f.1 = 23 ∧ f.2.2.2.2.2.1 ≤ 1 ∧ f.2.2.2.2.2.2 ≤ 6 ∧ ∃ r2, ai_Rel D tyc A s sa ws 7 r2 ad' lx_L [] (lx_G v 0) H' locs' ls' st' ∧ r2 1 = r' 1 + 10 ∧ r2 73 = r' 73 + 0 ∧ lx_J r2 ∧ lx_kp r r2)
    (kn : lx_Kn p l e R s m args below meth c Q D tyc A sa b (r 1)) : W p l e R s m args below meth c H locs G.2.2.1 G.2.2.2 Q (F0 m 40 ls st) := by
  unfold lx_zck at hck
  rw [Bool.and_eq_true] at hck
  obtain ⟨hcov, hrows⟩ := hck
  have cov : ∀ k : Int, 0 ≤ k → k ≤ 9 → ∃ b ∈ B k, b.1 ≤ (xs (r 1 + k).toNat).toInt ∧ (xs (r 1 + k).toNat).toInt ≤ b.2 := fun k k1 k2 => by
    have g : bx_cov ai_lo32 (B (Int.ofNat k.toNat)) = true := List.all_eq_true.mp hcov k.toNat (List.mem_range.mpr (by omega))
    have ek : Int.ofNat k.toNat = k := by
      show ((k.toNat : Nat) : Int) = k
      omega
    rw [ek] at g
    exact bx_cov_ok (ai_i32 _).2 g (ai_i32 _).1
  obtain ⟨bb, hbb, hb1, hb2⟩ := cov (lx_kap w) (lx_kapb w).1 (lx_kapb w).2
  have hck := List.all_eq_true.mp hrows bb hbb
  unfold lx_zckA at hck
  split at hck
  · rename_i fs hrun
    have e1r : r0 1 = r 1 := hx0 1 (by omega)
    refine lx_okA (k0 := 60) (T := T) (B := lx_b2 w B bb) (G := G) (i0 := r 1) F hl hT (by omega) (by omega) hV.pw hsa (fun k k1 k2 => ?_) 16 rd false 40 lx_L _ fs r0 ad H locs ls st hrun e1r hRG (by omega) h0 (by rw [e1r]; exact hi) had (by rw [e1r]; exact hrd) hrl (fun f hf r' ad' x1 x2 x3 x4 H' locs' ls' st' hR' => ?_)
    · unfold lx_b2
      by_cases e : k = lx_kap w
      · rw [if_pos e, e]
        exact ⟨bb, List.mem_cons_self, hb1, hb2⟩
      · rw [if_neg e]
        exact cov k k1 k2
    obtain ⟨e1, e2, e3, r2, hR2, q1, q2, hJ⟩ := hend f r' ad' H' locs' ls' st' (List.all_eq_true.mp hck f hf) x1 hR'
    rw [e1]
    have y1 : ai_ext 382 r r' := fun u hu => (x1 u (by omega)).trans (hx0 u hu)
    exact kn v k ws r2 ad' H' locs' ls' st' _ _ hvk hk4 e2 e3 ⟨hV.k hJ.2, hJ.1⟩ hR2 (by rw [q1, y1 1 (by omega)]) (by rw [q2, y1 73 (by omega), h110, Int.add_zero]) ((x2 0 h0).trans had)
  · cases hck
/-- a call's end is a head, the invariant holds -/
theorem lx_fullK {f : ai_F} {C : List Nat} {P : List (Nat × Nat × Nat)} {mx : ai_X} {r' : Nat → Int} {ad' : Nat → Nat} {H' : Heap} {locs' : List Loc} {ls' : Array Slot} {st' : List Value} (hE : ai_gE r (lx_El v 1)) (hJ : lx_J r) (hv : v ≤ 4) (hP : lx_pc P = true) (h : lx_kJ C P mx f = true) (x1 : ai_ext 382 r r') (hR' : ai_Rel D tyc A s sa ws 7 r' ad' f.2.1 f.2.2.1 f.2.2.2 H' locs' ls' st') : f.1 = 23 ∧ f.2.2.2.2.2.1 ≤ 1 ∧ f.2.2.2.2.2.2 ≤ 6 ∧ ∃ r2, ai_Rel D tyc A s sa ws 7 r2 ad' lx_L [] (lx_G v 0) H' locs' ls' st' ∧ r2 1 = r' 1 + 10 ∧ r2 73 = ai_vx r' mx ∧ lx_J r2 ∧ lx_kp r r2 := by
  unfold lx_kJ at h
  rw [Bool.and_eq_true, Bool.and_eq_true] at h
  obtain ⟨h0, h1, hk⟩ := h
  have h : lx_fin C P [] 0 [(1, (1, 10)), (73, mx)] f = true ∧ lx_jckP f.2.2.2.1 (lx_jcP P) (lx_jW C P f) = true := ⟨h0, h1⟩
  have y2 : ai_ext (lx_El v 1).1 r r' := by
    rw [lx_E5e v, lx_E5N]
    exact x1
  obtain ⟨e1, e2, e3, hR2, u⟩ := lx_fin_okW hE y2 (cx_dd v (by omega)) (lx_fin_any hP (by omega) h.1) hR'
  refine ⟨e1, e2, e3, _, hR2, u _ List.mem_cons_self, u _ (List.mem_cons_of_mem _ List.mem_cons_self), lx_jck_ok hR'.env hJ x1 (lx_jckP_ok h.2) (fun t ht => ?_), fun t ht => ?_⟩
  · have g := cx_vx (r := r') (W := lx_jW C P f) (t, 0)
    have g : cx_r r' (lx_jW C P f) t + 0 = ai_vx r' (cx_im (lx_jW C P f) (t, 0)) := g
    rw [Int.add_zero] at g
    exact g
  · have w := List.all_eq_true.mp hk t ht
    have im : cx_im (lx_jW C P f) (t, 0) = (t, 0) := lx_imo (fun p hp => by
      have g := List.all_eq_true.mp w p hp
      rw [Bool.not_eq_true'] at g
      exact g)
    have g := cx_vx (r := r') (W := lx_jW C P f) (t, 0)
    rw [im] at g
    have g : cx_r r' (lx_jW C P f) t + 0 = r' t + 0 := g
    have lt : lx_JN 382 = true := by decide +kernel
    show cx_r r' (lx_jW C P f) t = r t
    rw [← x1 t (Nat.le_of_ble_eq_true (List.all_eq_true.mp lt t (lx_Kj ht).1))]
    omega
end LZJ
