/-! THE PARSER: step once more: the tape's bytes exactly, it goes on -/
noncomputable def sq_h : ai_H := (pz_h.1, ai_tset 9 pz_h.2 285 none)
noncomputable def sq_G (nb : List (Int × Int)) : ai_G := (sm_E pz_E nb, sq_h, 0, 0)
noncomputable def sq_b : Int × Int := (ai_lo32, ai_hi32)
noncomputable def sq_q : fn_O := (100, 185, (0, 200), sq_b, [])
/-- a byte of the tape -/
noncomputable def sq_φ (z : Int) (f : Nat → Int32) (k : Int) : Int := if k < z then (f k.toNat).toInt else -1
noncomputable def sq_Φ (z : Int) (f : Nat → Int32) : Nat → Int → Int := fun key k => match Nat.blt key 1000 with
  | true => sq_φ z f k
  | false => (f k.toNat).toInt
noncomputable def sq_GT : List (Nat × Nat × Int × Int) := [(285, 200, ai_lo32, ai_hi32)]
noncomputable def sq_has (l : List fn_L) (g : ai_F × List fn_L) : Bool := l.all (fun x => decide (x ∈ g.2))
theorem sq_has_ok {l : List fn_L} {g : ai_F × List fn_L} (h : sq_has l g = true) : ∀ x ∈ l, x ∈ g.2 := fun x hx => of_decide_eq_true (List.all_eq_true.mp h x hx)
theorem sq_N : sq_h.1 = 336 ∧ sm_wh 44 sq_h = true ∧ sm_wh 45 sq_h = true ∧ ls_plain 185 = true ∧ (ct_mt 185).2.2.1 = 2 ∧ (ct_mt 188).2.2.1 = 3 ∧ (ct_mt 188).2.2.2.1 = none ∧ decode (ct_mt 188).2.1 288 = .ok (.return_, 1) ∧ fc_ir 185 18 = true ∧ ct_bud 185 = (0, 0) := by decide +kernel
/-! byteAt -/
noncomputable def sq_bc (f : ai_F × List fn_L) : Bool := (Nat.beq f.1.1 18 && (fn_heq f.1.2.2.2.2.1 sq_h && (Nat.beq f.1.2.2.2.2.2.1 0 && Nat.beq f.1.2.2.2.2.2.2 0))) && ((decide (f.1.2.2.1 = [.inl (0, -1)]) && sq_has [(3, (44, 0), (8, 0), true)] f) || (decide (f.1.2.2.1 = [.inl (45, 0)]) && sq_has [(3, (44, 0), (8, 0), false), (1285, (44, 0), (45, 0), true)] f))
noncomputable def sq_bck : Bool := match fn_run 185 [] sq_GT sq_h [18] 10000 false [] 0 [pz_this, .inl (44, 0)] [] (sm_E pz_E [(0, 200)], sq_h, 0, 0) with
  | some fs => fs.all sq_bc
  | none => false
theorem sq_bk : sq_bck = true := by decide +kernel
theorem sq_byte {n : Nat} {l : Launch} {D : va_G} {tyc : Nat → ClassId} {A : Nat → Prop} {sa : ai_B} {ws : va_W} {r : Nat → Int} {ad : Nat → Nat} {f : Nat → Int32} (hE0 : ai_gE r pz_E) (hf : hg_ia tyc ws 285 200 f) : fc_Ct l D tyc A sa ws r ad pz_E sq_h (sq_φ (r 8) f) (n + 1) sq_q := by
  obtain ⟨N1, N2, N3, N4, N5⟩ := pz_N
  obtain ⟨S1, S2, S3, S4, S5, S6, S7, S8, S9, S10⟩ := sq_N
  have hb := sq_bk
  unfold sq_bck at hb
  split at hb
  · rename_i fs hrun
    have hpl' := S4
    unfold ls_plain at hpl'
    simp only [Bool.and_eq_true, Bool.not_eq_true'] at hpl'
    obtain ⟨p1, -, p3⟩ := hpl'
    obtain ⟨mok, htab⟩ := ls_known p1
    rw [p3] at htab
    intro H0 v hv1 hv2 hWd
    have hx : ai_ext 44 r (ai_upd r 44 v.toInt) := ai_upd_ext _ _ _
    have hat : ai_upd r 44 v.toInt 44 = v.toInt := ai_upd_at _ _ _
    have hv1 : 0 ≤ v.toInt := hv1
    have hv2 : v.toInt ≤ 200 := hv2
    have hE1 : ai_gE (ai_upd r 44 v.toInt) (sm_E pz_E [(0, 200)]) := by
      have hE' : ai_gE r (44, pz_E.2.1, []) := ⟨hE0.1, by show 0 < 44; omega, fun t ht => hE0.2.2.1 t (by rw [N1]; exact ht), fun q hq => ⟨N5 q hq, (hE0.2.2.2.1 q hq).2⟩, fun q hq => by cases hq⟩
      have := hE'.push hv1 hv2 (by unfold ai_lo64 ai_hi64; omega)
      unfold sm_E
      rw [N1]
      exact this
    have hWd1 : ai_Wd D tyc A sa ws (ai_upd r 44 v.toInt) ad (sm_E pz_E [(0, 200)], sq_h, 0, 0) H0 := fn_trW (N0 := 44) S2 hx ai_ext.rfl' (by show 44 ≤ pz_E.1 + 1; rw [N1]; omega) hE1 hWd
    have hA : ai_gF (ai_upd r 44 v.toInt) ad (sm_E pz_E [(0, 200)]).1 sq_h.1 [pz_this, .inl (44, 0)] (fn_As ad v []) :=
      ⟨⟨by rw [S1]; omega, rfl⟩, ⟨by show 44 < pz_E.1 + 1; rw [N1]; omega, v, rfl, by show v.toInt = _ + 0; rw [hat, Int.add_zero]⟩, trivial⟩
    refine ls_met (n := n) (mi := 185) S4 [pz_this, .inl (44, 0)] (by rw [S5]; rfl) hWd1 hA (fun p e s m below meth c ls F hret htb hheap hR => ?_)
    refine fn_ok (G := (sm_E pz_E [(0, 200)], sq_h, 0, 0)) (r0 := r) (ad0 := ad) (E0 := pz_E) (h0 := sq_h) (OT := []) (GT := sq_GT) (Φ := sq_Φ (r 8) f) S4 F (fun q hq => by cases hq) (fun q hq => ?_) (by rw [N1]; exact S2) hE0 (by rw [S1]; omega) 10000 false [] 0 _ [] fs _ ad s.heap [] ls [] hrun hR (by rw [N1]; exact hx) ai_ext.rfl' (Nat.le_succ _) (Nat.le_refl _) (fun x hx => by cases hx) (fun g hg r' ad' x1 x2 x3 x4 H' locs' ls' st' hR' => ?_)
    · rcases List.mem_cons.mp hq with rfl | hq
      · exact ⟨by show 16 ≤ 285; omega, f, hf, fun j hj => ⟨(ai_i32 _).1, (ai_i32 _).2, rfl⟩⟩
      · cases hq
    · have he := List.all_eq_true.mp hb g hg
      unfold sq_bc at he
      simp only [Bool.and_eq_true] at he
      obtain ⟨⟨e1, e2, e3, e4⟩, e5⟩ := he
      have e1 := Nat.eq_of_beq_eq_true e1
      have e3 := Nat.eq_of_beq_eq_true e3
      have e4 := Nat.eq_of_beq_eq_true e4
      have x1 : ai_ext (pz_E.1 + 1) (ai_upd r 44 v.toInt) r' := x1
      rw [N1] at x1
      have v44 : ai_vx r' (44, 0) = v.toInt := by
        show r' 44 + 0 = _
        rw [x1 44 (by omega), hat, Int.add_zero]
      have v8 : ai_vx r' (8, 0) = r 8 := by
        show r' 8 + 0 = _
        rw [x1 8 (by omega), hx 8 (by omega), Int.add_zero]
      have fin : ∀ x : ai_X, g.1.2.2.1 = [.inl x] → ai_vx r' x = sq_φ (r 8) f v.toInt → W p l e (lt_rm (n + 1) 185) s m (fn_As ad v []).toArray below meth c H' locs' g.1.2.2.2.2.2.1 g.1.2.2.2.2.2.2 (vx_MQ below (fun _ st o t => ∃ i : Int32, o = .returned (some (.int i)) ∧ i.toInt = sq_φ (r 8) f v.toInt ∧ (sq_q.2.2.2.1.1 ≤ i.toInt ∧ i.toInt ≤ sq_q.2.2.2.1.2) ∧ ai_Wd D tyc A sa ws r ad (pz_E, sq_h, 0, 0) t.heap ∧ va_F A st t) (fun _ _ _ => False) (fn_As ad v []).toArray s (lt_rm (n + 1) 185).cells (lt_rm (n + 1) 185).slots A) (F0 m g.1.1 ls' st') := fun x hS hval => by
        rw [e1, e3, e4]
        obtain ⟨len, a, b, ec, ha⟩ := fc_ir_ok S9
        obtain ⟨d1, -, -, d4, -⟩ := htab _ _ _ _ _ ec
        obtain ⟨rfl, w1, w2⟩ := d4
        obtain ⟨hWd', hS', hL', hSt'⟩ := hR'.wd
        rw [hS] at hSt'
        obtain ⟨i, t, rfl, i1, i2, i3⟩ := hSt'.int
        have ht0 : t = [] := by
          cases t with
          | nil => rfl
          | cons w t => exact i3.elim
        subst ht0
        obtain ⟨hx0, hb0, hml, hts, hown, hSt0, hA0, hbud, hcls, hroom, hlocks⟩ := F
        refine W.widen (Nat.zero_le _) (Nat.zero_le _) (vx_ret (W.iret hx0 hb0 (hret.trans (w2 ha)) (fun t ht _ => ?_) hS'.2.2 d1 hlocks))
        refine ⟨i, rfl, i2.trans hval, ai_i32 i, ?_, hS'.F ht⟩
        rw [ht]
        have hWd' : ai_Wd D tyc A sa ws r' ad' (g.1.2.2.2.1, g.1.2.2.2.2.1, g.1.2.2.2.2.2.1, g.1.2.2.2.2.2.2) H' := hWd'
        rw [fn_heq_ok e2] at hWd'
        exact fn_trW (N0 := 44) S2 (fn_rev (hx.trans x1 (by omega))) (fn_rev x2) (by rw [N1]; exact Nat.le_refl _) hE0 hWd'
      simp only [Bool.or_eq_true, Bool.and_eq_true, decide_eq_true_eq] at e5
      rcases e5 with ⟨q1, q2⟩ | ⟨q1, q2⟩
      · refine fin _ q1 ?_
        have y1 : ai_vx r' (8, 0) ≤ ai_vx r' (44, 0) := (fn_m_cmp' (by omega) (x4 _ (sq_has_ok q2 _ List.mem_cons_self)).2).mp rfl
        rw [v8, v44] at y1
        unfold sq_φ
        rw [if_neg (by omega)]
        show r' 0 + -1 = -1
        rw [hR'.env.1]
        rfl
      · refine fin _ q1 ?_
        have y1 : ¬ ai_vx r' (8, 0) ≤ ai_vx r' (44, 0) := fun q => by
          have := (fn_m_cmp' (by omega) (x4 _ (sq_has_ok q2 _ List.mem_cons_self)).2).mpr q
          cases this
        have y2 : ai_vx r' (45, 0) = (f (ai_vx r' (44, 0)).toNat).toInt := fn_m_fun' (by omega) (x4 _ (sq_has_ok q2 _ (List.mem_cons_of_mem _ List.mem_cons_self))).2
        rw [v8, v44] at y1
        rw [v44] at y2
        unfold sq_φ
        rw [if_pos (by omega), y2]
  · cases hb
/-! states of step -/
theorem pz_renv {s : State} {D : va_G} {tyc : Nat → ClassId} {A : Nat → Prop} {sa : ai_B} {ws : va_W} {nL : Nat} {r : Nat → Int} {ad : Nat → Nat} {L S : List ai_V} {H : Heap} {locs : List Loc} {ls : Array Slot} {st : List Value} {nb : List (Int × Int)} {hh : ai_H} (a2 : ai_Rel D tyc A s sa ws nL r ad L S (sm_E (1, [], []) (pz_nb ++ nb), hh, 0, 0) H locs ls st) : ai_Rel D tyc A s sa ws nL r ad L S (sm_E pz_E nb, hh, 0, 0) H locs ls st := by
  obtain ⟨N1, N2, N3, N4, N5⟩ := pz_N
  have hE2 := a2.env
  have hlen : pz_nb.length = 43 := by decide +kernel
  have eN : (sm_E (1, [], []) (pz_nb ++ nb)).1 = (sm_E pz_E nb).1 := by
    show 1 + (pz_nb ++ nb).length = pz_E.1 + nb.length
    rw [N1, List.length_append, hlen]
    omega
  have hE3 : ai_gE r (sm_E pz_E nb) := by
    refine ⟨hE2.1, by rw [← eN]; exact hE2.2.1, fun t ht => hE2.2.2.1 t (by rw [eN]; exact ht), fun q hq => ?_, fun q hq => by cases hq⟩
    rw [← eN]
    refine hE2.2.2.2.1 q ?_
    show q ∈ sm_nb 1 (pz_nb ++ nb) ++ []
    rw [List.append_nil, pz_nbs, hlen]
    rcases List.mem_append.mp hq with hq | hq
    · rw [N1] at hq
      exact List.mem_append_right _ hq
    · have hq : q ∈ sm_nb 1 pz_nb ++ [] := hq
      rw [List.append_nil] at hq
      exact List.mem_append_left _ hq
  exact a2.re ai_ext.rfl' (by rw [← eN]; exact Nat.le_refl _) hE3 (by rw [← eN]; exact a2.stk)
noncomputable def sq_to (nb : List (Int × Int)) (pc : Nat) (L' S' : List ai_V) (ch dc : List (Nat × ai_X)) (f : ai_F) : Bool := Nat.beq f.1 pc && (Nat.beq f.2.2.2.2.2.1 0 && (Nat.beq f.2.2.2.2.2.2 0 && hw_subY (1, [], []) (pz_nb ++ nb) sq_h L' S' f.2.1 f.2.2.1 f.2.2.2 (pz_o (ch ++ dc) ++ ch)))
section SQ
variable {p : Program} {l : Launch} {e : Env} {s : State} {m : MethodId} {args : Array Value} {below : List Frame} {meth : Method} {c : Code} {Q : State → Prop}
variable {D : va_G} {tyc : Nat → ClassId} {A : Nat → Prop} {sa : ai_B} {ws : va_W} {n : Nat}
variable {r : Nat → Int} {ad : Nat → Nat} {L S S' : List ai_V} {H : Heap} {locs : List Loc} {ls : Array Slot} {st : List Value} {pc : Nat} {nb : List (Int × Int)} {nL : Nat}
theorem sq_to_ok {L' : List ai_V} {ch dc : List (Nat × ai_X)} {f : ai_F} (h : sq_to nb pc L' S' ch dc f = true) (hR : ai_Rel D tyc A s sa ws nL r ad f.2.1 f.2.2.1 f.2.2.2 H locs ls st) :
    f.1 = pc ∧ f.2.2.2.2.2.1 = 0 ∧ f.2.2.2.2.2.2 = 0 ∧ ∃ r2, ai_Rel D tyc A s sa ws nL r2 ad L' S' (sq_G nb) H locs ls st ∧ (∀ t, 1 ≤ t → t < 44 → (ch ++ dc).all (fun q => !(Nat.beq q.1 t)) = true → r2 t = r t) ∧ ∀ q ∈ ch, r2 q.1 = ai_vx r q.2 := by
  unfold sq_to at h
  simp only [Bool.and_eq_true] at h
  obtain ⟨h1, h4, h5, h6⟩ := h
  have h4 := Nat.eq_of_beq_eq_true h4
  have h5 := Nat.eq_of_beq_eq_true h5
  have hE := hR.env
  have hE0 : ai_gE r (1, [], []) := ⟨hE.1, Nat.succ_pos _, fun t ht => hE.2.2.1 t (Nat.lt_of_lt_of_le ht hE.2.1), fun q hq => (by cases hq), fun q hq => (by cases hq)⟩
  obtain ⟨r2, a1, a2, a3⟩ := hw_okY hE0 rfl ai_ext.rfl' hE.2.1 hR h6
  refine ⟨Nat.eq_of_beq_eq_true h1, h4, h5, r2, ?_, fun t h1 h2 hc => ?_, fun q hq => a3 q (List.mem_append_right _ hq)⟩
  · have gz : f.2.2.2.2.2 = (0, 0) := Prod.ext h4 h5
    rw [gz] at a2
    exact pz_renv a2
  · have := a3 (t, (t, 0)) (List.mem_append_left _ (pz_o_mem h1 h2 hc))
    have : r2 t = r t + 0 := this
    rw [this, Int.add_zero]
noncomputable def sq_ck (stop : List Nat) (skip : Bool) (pc : Nat) (L S : List ai_V) (nb : List (Int × Int)) (caps : List (Nat × Int × Int)) (chk : ai_F × List fn_L → Bool) : Bool := match fn_run 188 [sq_q] [] sq_h stop 10000 skip [] pc L S (pz_cap caps (sq_G nb)) with
  | some fs => fs.all chk
  | none => false
/-- a run that calls byteAt -/
theorem sq_run {stop : List Nat} {skip : Bool} {caps : List (Nat × Int × Int)} {chk : ai_F × List fn_L → Bool} {f : Nat → Int32} (h : sq_ck stop skip pc L S nb caps chk = true) (F : ls_Fr p (lt_rm (39 + 1) 188) s m args meth c D tyc A sa 188) (hf : hg_ia tyc ws 285 200 f) (hR : ai_Rel D tyc A s sa ws (ct_mt 188).2.2.1 r ad L S (sq_G nb) H locs ls st)
    (hc : ∀ q ∈ caps, q.1 < 44 + nb.length ∧ q.2.1 ≤ r q.1 ∧ r q.1 ≤ q.2.2)
    (k : ∀ g, chk g = true → ∀ (r' : Nat → Int) (ad' : Nat → Nat), ai_ext (44 + nb.length) r r' → ai_ext 336 ad ad' → (∀ x ∈ g.2, fn_m (sq_Φ (r 8) f) r' x) → ∀ (H' : Heap) (locs' : List Loc) (ls' : Array Slot) (st' : List Value), ai_Rel D tyc A s sa ws (ct_mt 188).2.2.1 r' ad' g.1.2.1 g.1.2.2.1 g.1.2.2.2 H' locs' ls' st' → W p l e (lt_rm (39 + 1) 188) s m args below meth c H' locs' g.1.2.2.2.2.2.1 g.1.2.2.2.2.2.2 Q (F0 m g.1.1 ls' st')) :
    W p l e (lt_rm (39 + 1) 188) s m args below meth c H locs 0 0 Q (F0 m pc ls st) := by
  obtain ⟨N1, N2, N3, N4, N5⟩ := pz_N
  obtain ⟨S1, S2, S3, S4, S5, S6, S7, S8, S9, S10⟩ := sq_N
  unfold sq_ck at h
  split at h
  · rename_i fs hrun
    obtain ⟨c1, c2⟩ := pz_cap_N (l := caps) (G := sq_G nb)
    have eN : (sq_G nb).1.1 = 44 + nb.length := by
      show pz_E.1 + nb.length = _
      rw [N1]
    have hRc := pz_cap_ok (caps := caps) (fun q hq => ⟨by rw [eN]; exact (hc q hq).1, (hc q hq).2⟩) hR
    have hE0 : ai_gE r pz_E := pz_Esub (nb := nb) hR.env
    have key : W p l e (lt_rm (39 + 1) 188) s m args below meth c H locs (pz_cap caps (sq_G nb)).2.2.1 (pz_cap caps (sq_G nb)).2.2.2 Q (F0 m pc ls st) := by
      refine fn_ok (n := 39) (G := pz_cap caps (sq_G nb)) (r0 := r) (ad0 := ad) (E0 := pz_E) (h0 := sq_h) (OT := [sq_q]) (GT := []) (Φ := sq_Φ (r 8) f) em_k.2.1 F (fun q hq => ?_) (fun q hq => by cases hq) (by rw [N1]; exact S2) hE0 (by rw [S1]; omega) 10000 skip [] pc L S fs r ad H locs ls st hrun hRc ai_ext.rfl' ai_ext.rfl' (by rw [c1, eN, N1]; omega) (by rw [c2]; exact Nat.le_refl _) (fun x hx => by cases hx) (fun g hg r' ad' x1 x2 x3 x4 H' locs' ls' st' hR' => ?_)
      · rcases List.mem_cons.mp hq with rfl | hq
        · exact ⟨S4, by show 185 < 1000; omega, by show 100 ≤ 100; omega, sq_byte (n := 38) hE0 hf⟩
        · cases hq
      · rw [c1, eN] at x1
        rw [S1] at x2
        exact k g (List.all_eq_true.mp h g hg) r' ad' x1 x2 (fun x hx => (x4 x hx).2) H' locs' ls' st' hR'
    rw [c2] at key
    exact key
  · cases h
noncomputable def sq_lc (stop : List Nat) (skip : Bool) (pc : Nat) (L S : List ai_V) (nb : List (Int × Int)) (caps : List (Nat × Int × Int)) (chk : ai_F → Bool) : Bool := lz_chk [] 188 stop skip pc L S (pz_cap caps (sq_G nb)) chk
theorem sq_seg {stop : List Nat} {skip : Bool} {caps : List (Nat × Int × Int)} {chk : ai_F → Bool} (h : sq_lc stop skip pc L S nb caps chk = true) (F : ls_Fr p (lt_rm (39 + 1) 188) s m args meth c D tyc A sa 188) (hl : l.stackTraces = false) (hPw : ai_Pw tyc ws) (hR : ai_Rel D tyc A s sa ws (ct_mt 188).2.2.1 r ad L S (sq_G nb) H locs ls st)
    (hc : ∀ q ∈ caps, q.1 < 44 + nb.length ∧ q.2.1 ≤ r q.1 ∧ r q.1 ≤ q.2.2)
    (k : ∀ f, chk f = true → ∀ (r' : Nat → Int) (ad' : Nat → Nat), ai_ext (44 + nb.length) r r' → ai_ext 336 ad ad' → ∀ (H' : Heap) (locs' : List Loc) (ls' : Array Slot) (st' : List Value), ai_Rel D tyc A s sa ws (ct_mt 188).2.2.1 r' ad' f.2.1 f.2.2.1 f.2.2.2 H' locs' ls' st' → W p l e (lt_rm (39 + 1) 188) s m args below meth c H' locs' f.2.2.2.2.2.1 f.2.2.2.2.2.2 Q (F0 m f.1 ls' st')) :
    W p l e (lt_rm (39 + 1) 188) s m args below meth c H locs 0 0 Q (F0 m pc ls st) := by
  obtain ⟨N1, N2, N3, N4, N5⟩ := pz_N
  obtain ⟨c1, c2⟩ := pz_cap_N (l := caps) (G := sq_G nb)
  have eN : (sq_G nb).1.1 = 44 + nb.length := by
    show pz_E.1 + nb.length = _
    rw [N1]
  have hRc := pz_cap_ok (caps := caps) (fun q hq => ⟨by rw [eN]; exact (hc q hq).1, (hc q hq).2⟩) hR
  have key : W p l e (lt_rm (39 + 1) 188) s m args below meth c H locs (pz_cap caps (sq_G nb)).2.2.1 (pz_cap caps (sq_G nb)).2.2.2 Q (F0 m pc ls st) := by
    refine lz_ok (T := []) (k0 := 0) (n := 39) (G := pz_cap caps (sq_G nb)) em_k.2.1 F hl trivial (by omega) hPw h hRc (fun f hf => ?_)
    intro r' ad' x1 x2 x3 x4 H' locs' ls' st' hR'
    rw [c1, eN] at x1
    rw [c2] at x2
    have x2 : ai_ext sq_h.1 ad ad' := x2
    rw [sq_N.1] at x2
    exact k f hf r' ad' x1 x2 H' locs' ls' st' hR'
  rw [c2] at key
  exact key
end SQ
