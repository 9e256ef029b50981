/-! THE LAW: kinds by what the script and the world really have, with the invariant (printed by jspec8.py) -/
noncomputable def lx_z0 : ai_G := hg_cap (lx_E5, lx_h, 0, 0) 1 (0, 5110)
/-- a kind's runs, each with one box for one place of the script (its first behind a sheet's, a night's quarter) -/
noncomputable def lx_kap (w : Nat) : Int := match Nat.beq w 22 with
  | true => 1
  | false => 2
theorem lx_kapb (w : Nat) : 0 ≤ lx_kap w ∧ lx_kap w ≤ 9 := by
  unfold lx_kap
  cases Nat.beq w 22 <;> decide
noncomputable def lx_b2 (w : Nat) (B : Int → List (Int × Int)) (b : Int × Int) : Int → List (Int × Int) := fun k => if k = lx_kap w then [b] else B k
noncomputable def lx_zckA (w : Nat) (T : List (Nat × us_C)) (B : Int → List (Int × Int)) (rd : List (Int × ai_X)) (ck : ai_F → Bool) (G : ai_G) (b : Int × Int) : Bool := match lx_runA T (lx_b2 w B b) [23] 16 rd false 40 lx_L [.inl (0, .ofNat w)] G with
  | some fs => fs.all ck
  | none => false
noncomputable def lx_zck (w : Nat) (T : List (Nat × us_C)) (B : Int → List (Int × Int)) (rd : List (Int × ai_X)) (ck : ai_F → Bool) (G : ai_G) : Bool := (List.range 10).all (fun k => bx_cov ai_lo32 (B (.ofNat k))) && (B (lx_kap w)).all (lx_zckA w T B rd ck G)
theorem lx_zck_of {w : Nat} {T : List (Nat × us_C)} {B : Int → List (Int × Int)} {rd : List (Int × ai_X)} {ck : ai_F → Bool} {G : ai_G} {l : List (Int × Int)} (hc : (List.range 10).all (fun k => bx_cov ai_lo32 (B (.ofNat k))) = true) (hl : B (lx_kap w) = l) (h : l.all (lx_zckA w T B rd ck G) = true) : lx_zck w T B rd ck G = true := by
  unfold lx_zck
  rw [hl, h, Bool.and_true]
  exact hc
theorem lx_ac {α : Type} {f : α → Bool} {a : α} {l : List α} (h : f a = true) (g : l.all f = true) : (a :: l).all f = true := by
  rw [List.all_cons, h, g]
  rfl
theorem lx_an {α : Type} {f : α → Bool} : ([] : List α).all f = true := rfl
noncomputable def lx_oJ (l : List (Nat × ai_X)) : List (Nat × ai_X) := (1, (1, 10)) :: (74, (74, 0)) :: l
theorem lx_zmb : (75, ((0 : Int), (12 : Int))) ∈ lx_E5.2.1 := by decide +kernel
/-! the invariant behind a call, by what its numbers stand for -/
noncomputable def lx_jW (C : List Nat) (P : List (Nat × Nat × Nat)) (f : ai_F) : List (Nat × ai_X) := match so_G C f.2.2.2 with
  | some G => cx_ws f.2.1 G.2.1 P
  | none => []
noncomputable def lx_jw (W : List (Nat × ai_X)) : List (Nat × ai_X) := lx_Jt.map (fun t => (t, cx_im W (t, 0)))
noncomputable def lx_jno (E : ai_E) (a b : ai_X) : Bool := cx_bd E a ((fz_iv E a).1, ai_hi64) && cx_bd E b (ai_lo64, (fz_iv E a).1 - 1)
noncomputable def lx_jc2 (E : ai_E) (c : ai_X × ai_X × ai_X × ai_X) (a b x y : ai_X) : Bool := cx_q x y || (lx_jno E a b || ((cx_q x c.2.2.1 && cx_q y c.2.2.2) && ((Nat.beq a.1 c.1.1 && ai_le c.1.2 a.2) && (Nat.beq b.1 c.2.1.1 && ai_le b.2 c.2.1.2))))
noncomputable def lx_jck (E : ai_E) (W : List (Nat × ai_X)) : Bool := lx_jcl.all (fun c => lx_jc2 E c (cx_im W c.1) (cx_im W c.2.1) (cx_im W c.2.2.1) (cx_im W c.2.2.2))
theorem lx_jno_ok {r : Nat → Int} {E : ai_E} {a b : ai_X} (hE : ai_gE r E) (h : lx_jno E a b = true) : ¬ (ai_vx r a ≤ ai_vx r b) := by
  unfold lx_jno at h
  rw [Bool.and_eq_true] at h
  have h1 := (cx_bd_ok hE h.1).2.1
  have h2 := (cx_bd_ok hE h.2).2.2.1
  have h1 : (fz_iv E a).1 ≤ ai_vx r a := h1
  have h2 : ai_vx r b ≤ (fz_iv E a).1 - 1 := h2
  omega
theorem lx_jck_ok {r r' r2 : Nat → Int} {E : ai_E} {W : List (Nat × ai_X)} (hE : ai_gE r' E) (hJ : lx_J r) (x1 : ai_ext 399 r r') (h : lx_jck E W = true) (u : ∀ t ∈ lx_Jt, r2 t = ai_vx r' (cx_im W (t, 0))) : lx_J r2 := fun c hc hg => by
  obtain ⟨h1, h2, h3, h4⟩ := lx_jt hc
  have im : ∀ x : ai_X, cx_im W x = ((cx_im W (x.1, 0)).1, (cx_im W (x.1, 0)).2 + x.2) := fun x => by
    unfold cx_im
    show Option.rec (motive := fun _ => ai_X) x (fun z => (z.1, z.2 + x.2)) (fz_ylook W x.1) = _
    cases fz_ylook W x.1 with
    | none =>
      show x = (x.1, (0 : Int) + x.2)
      rw [Int.zero_add]
    | some z =>
      show (z.1, z.2 + x.2) = (z.1, z.2 + 0 + x.2)
      rw [Int.add_zero]
  have key : ∀ x : ai_X, x.1 ∈ lx_Jt → ai_vx r2 x = ai_vx r' (cx_im W x) := fun x hx => by
    rw [im x]
    show r2 x.1 + x.2 = r' (cx_im W (x.1, 0)).1 + ((cx_im W (x.1, 0)).2 + x.2)
    rw [u _ hx]
    show r' (cx_im W (x.1, 0)).1 + (cx_im W (x.1, 0)).2 + x.2 = _
    omega
  have lt : ∀ t ∈ lx_Jt, t < 399 := fun t ht => by
    have g : lx_Jt.all (fun t => Nat.blt t 399) = true := by decide +kernel
    exact Nat.le_of_ble_eq_true (List.all_eq_true.mp g t ht)
  rw [key _ h1, key _ h2] at hg
  rw [key _ h3, key _ h4]
  have hck := List.all_eq_true.mp h c hc
  unfold lx_jc2 at hck
  rw [Bool.or_eq_true, Bool.or_eq_true] at hck
  rcases hck with q | q | q
  · rw [cx_q_ok q]
  · exact absurd hg (lx_jno_ok hE q)
  · simp only [Bool.and_eq_true] at q
    obtain ⟨⟨q1, q2⟩, ⟨q3, q4⟩, q5, q6⟩ := q
    have q1 := cx_q_ok q1
    have q2 := cx_q_ok q2
    have q3 := Nat.eq_of_beq_eq_true q3
    have q5 := Nat.eq_of_beq_eq_true q5
    have q4 := ai_le_iff.mp q4
    have q6 := ai_le_iff.mp q6
    rw [q1, q2]
    have g1 : ai_vx r' (cx_im W c.1) = r c.1.1 + (cx_im W c.1).2 := by
      show r' (cx_im W c.1).1 + (cx_im W c.1).2 = _
      rw [q3, x1 _ (lt _ h1)]
    have g2 : ai_vx r' (cx_im W c.2.1) = r c.2.1.1 + (cx_im W c.2.1).2 := by
      show r' (cx_im W c.2.1).1 + (cx_im W c.2.1).2 = _
      rw [q5, x1 _ (lt _ h2)]
    have g3 : ∀ x : ai_X, x.1 ∈ lx_Jt → ai_vx r' x = ai_vx r x := fun x hx => by
      show r' x.1 + x.2 = r x.1 + x.2
      rw [x1 _ (lt _ hx)]
    rw [g3 _ h3, g3 _ h4]
    rw [g1, g2] at hg
    exact hJ c hc (by show r c.1.1 + c.1.2 ≤ r c.2.1.1 + c.2.1.2; omega)
noncomputable def lx_kJ (C : List Nat) (P : List (Nat × Nat × Nat)) (mx : ai_X) (f : ai_F) : Bool := lx_fin C P [] 0 ((1, (1, 10)) :: (74, mx) :: lx_jw (lx_jW C P f)) f && lx_jck f.2.2.2.1 (lx_jW C P f)
section LZJ
variable {p : Program} {l : Launch} {e : Env} {R : Room} {s : State} {m : MethodId} {args : Array Value} {below : List Frame} {meth : Method} {c : Code} {Q : State → Prop}
variable {D : va_G} {tyc : Nat → ClassId} {A : Nat → Prop} {sa : ai_B} {ws : va_W} {b Ln z0 v k w : Nat} {xs : Nat → Int32}
variable {r r0 : Nat → Int} {ad : Nat → Nat} {H : Heap} {locs : List Loc} {ls : Array Slot} {st : List Value} {G : ai_G} {T : List (Nat × us_C)} {B : Int → List (Int × Int)} {rd : List (Int × ai_X)} {ck : ai_F → Bool}
set_option maxHeartbeats 2000000 in
theorem lx_goJ (F : lx_Fr p R s m args meth c D tyc A sa) (hl : l.stackTraces = false) (hT : lt_all 60 T) (hRf : 111 ≤ R.frames) (hRl : 8000 ≤ R.locals) (hsa : (z0, b, Ln, xs) ∈ sa.2) (hV : cl_V tyc ws) (hvk : v ≤ k) (hk4 : k ≤ 4) (hi : 0 ≤ r 1 ∧ r 1 + 10 ≤ (Ln : Int)) (h110 : r 74 = (k : Int)) (had : ad 0 = b)
    (hck : lx_zck w T B rd ck G = true) (hRG : ai_Rel D tyc A s sa ws 7 r0 ad lx_L [.inl (0, .ofNat w)] G H locs ls st) (hx0 : ai_ext 399 r r0) (hG : 399 ≤ G.1.1) (h0 : 0 < G.2.1.1) (hrd : ∀ q ∈ rd, ai_vx r0 q.2 = (xs (r 1 + q.1).toNat).toInt) (hrl : ∀ q ∈ rd, q.2.1 < G.1.1)
    (hend : ∀ (f : ai_F) (r' : Nat → Int) (ad' : Nat → Nat) (H' : Heap) (locs' : List Loc) (ls' : Array Slot) (st' : List Value), ck f = true → ai_ext G.1.1 r0 r' → ai_Rel D tyc A s sa ws 7 r' ad' f.2.1 f.2.2.1 f.2.2.2 H' locs' ls' st' → f.1 = 23 ∧ f.2.2.2.2.2.1 ≤ 1 ∧ f.2.2.2.2.2.2 ≤ 6 ∧ ∃ r2, ai_Rel D tyc A s sa ws 7 r2 ad' lx_L [] (lx_G v 0) H' locs' ls' st' ∧ r2 1 = r' 1 + 10 ∧ r2 74 = r' 74 + 0 ∧ lx_J r2)
    (kn : lx_Kn p l e R s m args below meth c Q D tyc A sa b (r 1)) : W p l e R s m args below meth c H locs G.2.2.1 G.2.2.2 Q (F0 m 40 ls st) := by
  unfold lx_zck at hck
  rw [Bool.and_eq_true] at hck
  obtain ⟨hcov, hrows⟩ := hck
  have cov : ∀ k : Int, 0 ≤ k → k ≤ 9 → ∃ b ∈ B k, b.1 ≤ (xs (r 1 + k).toNat).toInt ∧ (xs (r 1 + k).toNat).toInt ≤ b.2 := fun k k1 k2 => by
    have g : bx_cov ai_lo32 (B (Int.ofNat k.toNat)) = true := List.all_eq_true.mp hcov k.toNat (List.mem_range.mpr (by omega))
    have ek : Int.ofNat k.toNat = k := by
      show ((k.toNat : Nat) : Int) = k
      omega
    rw [ek] at g
    exact bx_cov_ok (ai_i32 _).2 g (ai_i32 _).1
  obtain ⟨bb, hbb, hb1, hb2⟩ := cov (lx_kap w) (lx_kapb w).1 (lx_kapb w).2
  have hck := List.all_eq_true.mp hrows bb hbb
  unfold lx_zckA at hck
  split at hck
  · rename_i fs hrun
    have e1r : r0 1 = r 1 := hx0 1 (by omega)
    refine lx_okA (k0 := 60) (T := T) (B := lx_b2 w B bb) (G := G) (i0 := r 1) F hl hT (by omega) (by omega) hV.pw hsa (fun k k1 k2 => ?_) 16 rd false 40 lx_L _ fs r0 ad H locs ls st hrun e1r hRG (by omega) h0 (by rw [e1r]; exact hi) had (by rw [e1r]; exact hrd) hrl (fun f hf r' ad' x1 x2 x3 x4 H' locs' ls' st' hR' => ?_)
    · unfold lx_b2
      by_cases e : k = lx_kap w
      · rw [if_pos e, e]
        exact ⟨bb, List.mem_cons_self, hb1, hb2⟩
      · rw [if_neg e]
        exact cov k k1 k2
    obtain ⟨e1, e2, e3, r2, hR2, q1, q2, hJ⟩ := hend f r' ad' H' locs' ls' st' (List.all_eq_true.mp hck f hf) x1 hR'
    rw [e1]
    have y1 : ai_ext 399 r r' := fun u hu => (x1 u (by omega)).trans (hx0 u hu)
    exact kn v k ws r2 ad' H' locs' ls' st' _ _ hvk hk4 e2 e3 ⟨hV, hJ⟩ hR2 (by rw [q1, y1 1 (by omega)]) (by rw [q2, y1 74 (by omega), h110, Int.add_zero]) ((x2 0 h0).trans had)
  · cases hck
/-- a call's end is a head, the invariant holds -/
theorem lx_fullK {f : ai_F} {C : List Nat} {P : List (Nat × Nat × Nat)} {mx : ai_X} {r' : Nat → Int} {ad' : Nat → Nat} {H' : Heap} {locs' : List Loc} {ls' : Array Slot} {st' : List Value} (hE : ai_gE r (lx_El v 1)) (hJ : lx_J r) (hv : v ≤ 4) (hP : lx_pc P = true) (h : lx_kJ C P mx f = true) (x1 : ai_ext 399 r r') (hR' : ai_Rel D tyc A s sa ws 7 r' ad' f.2.1 f.2.2.1 f.2.2.2 H' locs' ls' st') : f.1 = 23 ∧ f.2.2.2.2.2.1 ≤ 1 ∧ f.2.2.2.2.2.2 ≤ 6 ∧ ∃ r2, ai_Rel D tyc A s sa ws 7 r2 ad' lx_L [] (lx_G v 0) H' locs' ls' st' ∧ r2 1 = r' 1 + 10 ∧ r2 74 = ai_vx r' mx ∧ lx_J r2 := by
  unfold lx_kJ at h
  rw [Bool.and_eq_true] at h
  have y2 : ai_ext (lx_El v 1).1 r r' := by
    rw [lx_E5e v, lx_E5N]
    exact x1
  obtain ⟨e1, e2, e3, r2, hR2, u⟩ := lx_fin_ok hE y2 (cx_dd v (by omega)) (lx_fin_any hP (by omega) h.1) hR'
  refine ⟨e1, e2, e3, r2, hR2, u _ List.mem_cons_self, u _ (List.mem_cons_of_mem _ List.mem_cons_self), lx_jck_ok hR'.env hJ x1 h.2 (fun t ht => ?_)⟩
  exact u (t, cx_im (lx_jW C P f) (t, 0)) (List.mem_cons_of_mem _ (List.mem_cons_of_mem _ (List.mem_map.mpr ⟨t, ht, rfl⟩)))
end LZJ
