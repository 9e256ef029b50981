/-! SEGMENTS THAT CALL ALSO WHAT HAS NO CONTRACT; an element of an array told by a number of its own -/
noncomputable def lz_cal (T : List (Nat × us_C)) : Nat → List ai_V → ai_G → ai_Q := lt_call T (lf_meth (fun m => ct_meth (fun _ _ => none) m) T 10000 4)
noncomputable def lz_sg (T : List (Nat × us_C)) (mi : Nat) (stop : List Nat) (skip : Bool) (pc : Nat) (L S : List ai_V) (G : ai_G) : Option (List ai_F) := fs_run (ls_fcode mi) (fun _ _ => none) (ct_bud mi) ct_bud ct_dflt ct_kind (lz_cal T) (fun q => stop.elem q) 10000 skip pc L S G
theorem lz_sg_eq {T : List (Nat × us_C)} {mi : Nat} {stop : List Nat} {skip : Bool} {pc : Nat} {L S : List ai_V} {G : ai_G} : lz_sg T mi stop skip pc L S G = sg_run (ls_code mi) (fun _ _ => none) (ct_bud mi) ct_bud ct_dflt ct_kind (lz_cal T) (fun q => stop.elem q) 10000 skip pc L S G := by
  rw [ls_fc.2]
  exact fs_run_eq ls_fc.1 10000 skip pc L S G
noncomputable def lz_chk (T : List (Nat × us_C)) (mi : Nat) (stop : List Nat) (skip : Bool) (pc : Nat) (L S : List ai_V) (G : ai_G) (chk : ai_F → Bool) : Bool := match lz_sg T mi stop skip pc L S G with
  | some fs => fs.all chk
  | none => false
noncomputable def lz_fin (T : List (Nat × us_C)) (mi : Nat) (mk : List (Nat × ai_AA)) (E0 : ai_E) (W : List sm_W) (pc : Nat) (L S : List ai_V) (G : ai_G) : Bool := match fr_run (ls_fcode mi) (fun _ _ => none) (ct_bud mi) ct_bud ct_dflt ct_kind (lz_cal T) (ai_mark mk) 10000 [] false pc L S G with
  | none => false
  | some outs => outs.all (fun f => sm_any E0 f W) && W.all (sm_ok E0)
theorem lz_cal_ok {l : Launch} {D : va_G} {tyc : Nat → ClassId} {A : Nat → Prop} {sa : ai_B} (hl : l.stackTraces = false) {T : List (Nat × us_C)} {k : Nat} (hT : lt_all k T) {mi : Nat} {aa : List ai_V} {G : ai_G} {o : List (ai_R × ai_G)} (h : lz_cal T mi aa G = some o) : ai_mok ft_W (ct_mt mi) ∧ ai_Ct l D tyc A sa ct_strs ft_N ft_W (ct_mt mi) (lt_rm (k + 4) mi) aa G o := by
  have hprog := ct_hprog (mk := fun _ _ => none) (fun _ => rfl)
  have e : lf_meth (fun m => ct_meth (fun _ _ => none) m) T 10000 4 = lt_meth (fun m => (ct_meth (fun _ _ => none) m).map fr_unM) T 10000 4 := by
    funext a b c
    exact lf_meth_eq (fun mi q hq => ct_hnx mi q hq) 4 a b c
  unfold lz_cal at h
  rw [e] at h
  exact lt_call_ok (d := 4) hl hT (fun mi {_ _ _} q => ⟨lt_mok hprog q, lt_meth_ok hl hT hprog 4 mi _ _ _ q⟩) h
section LZ
variable {p : Program} {l : Launch} {e : Env} {s : State} {m : MethodId} {args : Array Value} {below : List Frame} {meth : Method} {c : Code} {Q : State → Prop}
variable {D : va_G} {tyc : Nat → ClassId} {A : Nat → Prop} {sa : ai_B} {ws0 : va_W} {mi n k0 : Nat}
variable {T : List (Nat × us_C)} {stop : List Nat} {skip : Bool} {pc : Nat} {L S : List ai_V} {G : ai_G} {r r0 : Nat → Int} {ad ad0 : Nat → Nat} {n0 : Nat} {H : Heap} {locs : List Loc} {ls : Array Slot} {st : List Value}
theorem lz_ok {chk : ai_F → Bool} (hpl : ls_plain mi = true) (F : ls_Fr p (lt_rm (n + 1) mi) s m args meth c D tyc A sa mi) (hl : l.stackTraces = false) (hT : lt_all k0 T) (hk : k0 + 4 ≤ n) (hPw : ai_Pw tyc ws0)
    (h : lz_chk T mi stop skip pc L S G chk = true) (hR : ai_Rel D tyc A s sa ws0 (ct_mt mi).2.2.1 r ad L S G H locs ls st)
    (k : ∀ f, chk f = true → ls_K p l e (lt_rm (n + 1) mi) s m args below meth c Q D tyc A sa ws0 (ct_mt mi).2.2.1 r ad G f) :
    W p l e (lt_rm (n + 1) mi) s m args below meth c H locs G.2.2.1 G.2.2.2 Q (F0 m pc ls st) := by
  have hgood : ∀ w ∈ ft_W, goodWord w = true := fun w hw => (List.mem_filter.mp hw).2
  have hnk : ∀ w ∈ ft_N, ai_nk w = true := fun w hw => (List.mem_filter.mp hw).2
  unfold ls_plain at hpl
  simp only [Bool.and_eq_true, Bool.not_eq_true'] at hpl
  obtain ⟨h1, -, h3⟩ := hpl
  obtain ⟨mok, htab⟩ := ls_known h1
  rw [h3] at htab
  unfold lz_chk at h
  split at h
  · rename_i fs hfs
    exact sg_ok (rm := lt_rm (k0 + 4)) F hgood hnk (fun q => by cases q) htab (fun mj aa G o ho => (lz_cal_ok (l := l) (D := D) (tyc := tyc) (A := A) (sa := sa) hl hT ho).1) (fun pc z k pcn q => by cases q) (fun mj => ⟨by show k0 + 4 + 0 + 8 + 1 ≤ n + 1 + 0 + 8; omega, by show 64 * (k0 + 4 + 0) + 400 + 64 ≤ 64 * (n + 1 + 0) + 400; omega, rfl, rfl⟩) (fun mj aa G o ho => (lz_cal_ok hl hT ho).2) hPw 10000 skip pc L S G fs r ad H locs ls st (lz_sg_eq.symm.trans hfs) hR (fun f hf => k f (List.all_eq_true.mp h f hf))
  · cases h
theorem lz_fin_ok {mk : List (Nat × ai_AA)} {E0 : ai_E} {Wl : List sm_W} (hpl : ls_plain mi = true) (F : ls_Fr p (lt_rm (n + 1) mi) s m args meth c D tyc A sa mi) (hl : l.stackTraces = false) (hret : meth.sig.returnType = (ct_mt mi).2.2.2.1) (htb : ∀ x ∈ c.exceptionTable.toList, False) (hT : lt_all k0 T) (hk : k0 + 4 ≤ n) (hPw : ai_Pw tyc ws0)
    (hE0 : ai_gE r0 E0) (hd : E0.2.2 = []) (h : lz_fin T mi mk E0 Wl pc L S G = true) (hR : ai_Rel D tyc A s sa ws0 (ct_mt mi).2.2.1 r ad L S G H locs ls st) (h1 : ai_ext E0.1 r0 r) (h2 : ai_ext n0 ad0 ad) (h3 : E0.1 ≤ G.1.1) (h4 : n0 ≤ G.2.1.1) :
    W p l e (lt_rm (n + 1) mi) s m args below meth c H locs G.2.2.1 G.2.2.2 (vx_MQ below (ai_Qc D tyc A sa ws0 r0 ad0 E0.1 n0 (Wl.map (sm_out E0))) (ai_XC D tyc A sa ws0 r0 ad0 E0.1 n0 (Wl.map (sm_out E0))) args s (lt_rm (n + 1) mi).cells (lt_rm (n + 1) mi).slots A) (F0 m pc ls st) := by
  have hgood : ∀ w ∈ ft_W, goodWord w = true := fun w hw => (List.mem_filter.mp hw).2
  have hnk : ∀ w ∈ ft_N, ai_nk w = true := fun w hw => (List.mem_filter.mp hw).2
  unfold ls_plain at hpl
  simp only [Bool.and_eq_true, Bool.not_eq_true'] at hpl
  obtain ⟨g1, g2, g3⟩ := hpl
  obtain ⟨mok, htab⟩ := ls_known g1
  rw [g3] at htab
  unfold lz_fin at h
  split at h
  · cases h
  · rename_i outs eo
    rw [fr_run_eq ls_fc.1] at eo
    rw [← ls_fc.2] at eo
    rw [Bool.and_eq_true] at h
    have R0 := ai_run_ok (e := e) (below := below) (R := lt_rm (n + 1) mi) (ws0 := ws0) (r0 := r0) (ad0 := ad0) (N0 := E0.1) (n0 := n0) (mc := (lt_rm (n + 1) mi).cells) (ms := (lt_rm (n + 1) mi).slots) (outs := outs) (cbud := ct_bud) (mt := ct_mt) (rm := lt_rm (k0 + 4)) (callee := lz_cal T) (ann := ai_mark mk) (code := ls_code mi) (hand := fun _ _ => none) (tb := (ct_mt mi).2.2.2.2.1.getD []) (ret := (ct_mt mi).2.2.2.1) (ini := false) F hl hret (fun _ => htb) hgood hnk (fun q => by cases q) htab
      (fun mj aa' G' o ho => (lz_cal_ok (l := l) (D := D) (tyc := tyc) (A := A) (sa := sa) hl hT ho).1)
      (fun pc z => fun x hx => (htb x hx).elim) (fun mj => ⟨by show k0 + 4 + 0 + 8 + 1 ≤ n + 1 + 0 + 8; omega, by show 64 * (k0 + 4 + 0) + 400 + 64 ≤ 64 * (n + 1 + 0) + 400; omega, rfl, rfl⟩)
      (fun mj aa' G' o ho => (lz_cal_ok hl hT ho).2) hPw ⟨Nat.le_refl _, Nat.le_refl _⟩
      10000 [] false pc L S G outs r ad H locs ls st eo (fun f hf => hf) hR h1 h2 h3 h4 (fun P hP => by cases hP)
    intro T' hT' X
    obtain ⟨t, a1, o, b1, b2, b3⟩ := R0 T' hT' X
    obtain ⟨j1, j2⟩ := ls_join (D := D) (tyc := tyc) (A := A) (sa := sa) (ws0 := ws0) (ad := ad0) (n0 := n0) (a := args) (s := s) (t := t) hE0 hd h.1 h.2
    refine ⟨t, a1, o, b1, b2, ?_⟩
    rcases b3 with ⟨q1, q2⟩ | ⟨q, q1, E', ce, Lx, q2, q3⟩
    · exact Or.inl ⟨j1 o q1, q2⟩
    · exact Or.inr ⟨q, q1, E', ce, Lx, j2 E' q2, q3⟩
/-- an element of an array of longs, told by a number of its own -/
noncomputable def hg_pin (G : ai_G) (q n j : Nat) (lo hi : Int) : ai_G := ((ai_new G.1 (lo, hi)).2, (G.2.1.1, ai_tset 9 G.2.1.2 q (some (.inr (.inl (1, n, lo, hi, [((0, .ofNat j), (G.1.1, 0))]))))), G.2.2)
theorem hg_pin_ok {nL : Nat} {q n j : Nat} {lo hi : Int} (hR : ai_Rel D tyc A s sa ws0 nL r ad L S G H locs ls st) (hq : 16 ≤ q) (hqn : q < G.2.1.1) (hj : j < n) (hc : ai_cell G.2.1 q = some (.inr (.inl (1, n, lo, hi, [])))) :
    ∃ r', ai_ext G.1.1 r r' ∧ lo ≤ r' G.1.1 ∧ r' G.1.1 ≤ hi ∧ ai_Rel D tyc A s sa ws0 nL r' ad L S (hg_pin G q n j lo hi) H locs ls st := by
  have hR0 := hR
  obtain ⟨ws, hP, hD, hS, hE, hH, hO, hsa, hL, hSt⟩ := hR
  have hn512 := hH.1.2.1
  obtain ⟨x, hw, hg⟩ := hH.at hq hqn hc
  rcases hg with ⟨-, f, rfl, hK⟩ | ⟨e0, -⟩
  · have hb : lo ≤ (f j).toInt ∧ (f j).toInt ≤ hi := hK.2 j hj
    cases en : ai_new G.1 (lo, hi) with
    | mk z E' =>
      obtain ⟨r', g1, g2, g3, g4, g5⟩ := ai_new_ok hE (b := (lo, hi)) hb (ai_i64 _) en
      have ez : z = (G.1.1, 0) ∧ E'.1 = G.1.1 + 1 := by
        obtain ⟨⟨N, lb, ds⟩, G2⟩ := G
        cases en
        exact ⟨rfl, rfl⟩
      obtain ⟨rfl, hE1⟩ := ez
      have e0 : r' G.1.1 = (f j).toInt := by
        have : r' G.1.1 + 0 = (f j).toInt := g5
        omega
      refine ⟨r', g1, by rw [e0]; exact hb.1, by rw [e0]; exact hb.2, ?_⟩
      have g0 : r' 0 = 0 := g3.1
      unfold hg_pin
      rw [en]
      refine ⟨ws, hP, hD, hS, g3, ⟨hH.1, hH.2.1, fun k hk d hd => ?_, fun k hk hd => ?_⟩, fun k hk d hd => ?_, hsa, hL.mono g1 ai_ext.rfl' g2 (Nat.le_refl _), hSt.mono g1 ai_ext.rfl' g2 (Nat.le_refl _)⟩
      · have hk : k + 16 < G.2.1.1 := hk
        have hd : ai_cell (G.2.1.1, ai_tset 9 G.2.1.2 q (some (.inr (.inl (1, n, lo, hi, [((0, .ofNat j), (G.1.1, 0))]))))) (k + 16) = some d := hd
        rw [hg_cell (by omega) (by omega)] at hd
        split at hd
        · rename_i ek
          cases hd
          refine ⟨.inl (tyc 1, n, .inr (.inl f)), ?_, Or.inl ⟨rfl, f, rfl, fun z hz => ?_, fun i hi' => ⟨fun hv => ?_, fun _ => hK.2 i hi'⟩⟩⟩
          · rw [show k = q - 16 by omega, hw, show q - 16 + 16 = q by omega]
          · rcases List.mem_cons.mp hz with rfl | hz
            · exact ⟨by show 0 < E'.1; omega, by show G.1.1 < E'.1; omega⟩
            · cases hz
          · have hv : r' 0 + (j : Int) = (i : Int) := hv
            have : i = j := by omega
            subst this
            show (f i).toInt = r' G.1.1 + 0
            omega
        · obtain ⟨y, h1, h2⟩ := hH.2.2.1 k hk d hd
          exact ⟨y, h1, h2.mono g1 ai_ext.rfl' g2 (Nat.le_refl _)⟩
      · have hk : k + 16 < G.2.1.1 := hk
        have hd : ai_cell (G.2.1.1, ai_tset 9 G.2.1.2 q (some (.inr (.inl (1, n, lo, hi, [((0, .ofNat j), (G.1.1, 0))]))))) (k + 16) = none := hd
        rw [hg_cell (by omega) (by omega)] at hd
        split at hd
        · cases hd
        · exact hH.2.2.2 k hk hd
      · have hd : ai_cell (G.2.1.1, ai_tset 9 G.2.1.2 q (some (.inr (.inl (1, n, lo, hi, [((0, .ofNat j), (G.1.1, 0))]))))) k = some d := hd
        rw [hg_cell (by omega) (by omega)] at hd
        split at hd
        · omega
        · obtain ⟨z, hz, lo', hi', l', h1, h2, h5⟩ := hO k hk d hd
          exact ⟨z, hz, lo', hi', l', h1, h2, h5.mono g1 g2⟩
  · rcases e0 with e0 | e0 <;> cases e0
end LZ
