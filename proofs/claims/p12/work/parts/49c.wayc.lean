/-! BY HAND: way: the walk -/
theorem wy_pl2 : ls_plain 249 = true ∧ ls_plain 250 = true ∧ ls_plain 251 = true ∧ ls_plain 252 = true := by decide +kernel
theorem wy_N : (∀ k, k < 4 → (wy_E0 k).1 = 108 ∧ (wy_E0 k).2.2 = [] ∧ sm_wh (wy_EF k).1 wy_hB = true) ∧ wy_hB.1 = 336 ∧ wy_E.1 = 107 ∧ wy_E.2.2 = [] ∧ wy_GP.2.1.1 = 336 ∧ wy_GP.1.1 = 108 ∧ wy_G18.1.1 = 108 := by decide +kernel
theorem wy_offx : ai_xs.all (fun p => (ai_cell wy_GP.2.1 (p.1 + 16)).isNone) = true := by decide +kernel
theorem wy_off : ((ai_cell wy_GP.2.1 286).isNone = true ∧ (ai_cell wy_GP.2.1 288).isNone = true ∧ (ai_cell wy_GP.2.1 289).isNone = true ∧ (ai_cell wy_GP.2.1 290).isNone = true) := by decide +kernel
theorem wy_tl : ∀ k, k < 4 → ∀ a, a < 14 → ([Int.ofNat a, Int.ofNat k] : List Int).all (fun k => ai_le ai_lo32 k && ai_le k ai_hi32) = true := by decide +kernel
theorem wy_dc : decode (ct_mt 252).2.1 73 = .ok (.iastore, 1) ∧ decode (ct_mt 252).2.1 158 = .ok (.iastore, 1) := by decide +kernel
theorem wy_nl : (ct_mt 249).2.2.1 = 5 ∧ (ct_mt 250).2.2.1 = 5 ∧ (ct_mt 251).2.2.1 = 10 ∧ (ct_mt 252).2.2.1 = 7 := by decide +kernel
noncomputable def wy_isf (c : Option ai_C) : Bool := match c with
  | some (.inr (.inl (ty, k, lo, hi, []))) => Nat.beq ty 0 && (Nat.beq k 4096 && (ai_eq lo (-1) && ai_eq hi 12))
  | _ => false
theorem wy_isf_ok {c : Option ai_C} (h : wy_isf c = true) : c = some (.inr (.inl (0, 4096, -1, 12, []))) := by
  unfold wy_isf at h
  split at h
  · simp only [Bool.and_eq_true] at h
    obtain ⟨h1, h2, h3, h4⟩ := h
    rw [Nat.eq_of_beq_eq_true h1, Nat.eq_of_beq_eq_true h2, ai_eq_iff.mp h3, ai_eq_iff.mp h4]
  · cases h
theorem wy_far : ai_cell wy_GP.2.1 329 = some (.inr (.inl (0, 4096, -1, 12, []))) := wy_isf_ok (by decide +kernel)
/-! the functions -/
noncomputable def wy_ΨB (r : Nat → Int) (k : Nat) : Nat → Int → Int := fun key => match Nat.beq key 101 with
  | true => fc_F 108 r (wy_EF k).1 (fc_fs [] (wy_EF k) wy_hB [76] (wy_LC k) (wy_qC k)) (fun _ _ => 0)
  | false => fc_F 108 r (wy_EF k).1 (fc_fs [] (wy_EF k) wy_hB [49] (wy_LC k) (wy_qS k)) (fun _ _ => 0)
noncomputable def wy_Φ (r : Nat → Int) (k a : Nat) : Int → Int := fc_F 108 r (wy_EF k).1 (fc_fs (wy_OB k) (wy_EF k) wy_hB wy_sB (wy_LB k a) (wy_qB k a)) (wy_ΨB r k)
noncomputable def wy_Ψ (r : Nat → Int) (k : Nat) (f : Nat → Int32) : Nat → Int → Int := fun key v => match Nat.blt key 1000 with
  | true => wy_Φ r k (key - 200) v
  | false => (f v.toNat).toInt
theorem wy_NF {k : Nat} (hk : k < 4) : (wy_EF k).1 = 109 := by
  have := (wy_N.1 k hk).1
  show (wy_E0 k).1 + 1 = 109
  omega
theorem wy_Φcg {k : Nat} (hk : k < 4) {r r' : Nat → Int} (hx : ai_ext 108 r r') : wy_Φ r' k = wy_Φ r k := by
  have e : ∀ t, t < (wy_EF k).1 → t ≠ 108 → r' t = r t := fun t h1 h2 => hx t (by have := wy_NF hk; omega)
  have e2 : wy_ΨB r' k = wy_ΨB r k := by
    funext key
    unfold wy_ΨB
    cases Nat.beq key 101 with
    | true => exact fc_F_cg e rfl
    | false => exact fc_F_cg e rfl
  funext a
  exact fc_F_cg e e2
theorem wy_Ψcg {k : Nat} (hk : k < 4) {r r' : Nat → Int} (hx : ai_ext 108 r r') (f : Nat → Int32) : wy_Ψ r' k f = wy_Ψ r k f := by
  funext key v
  unfold wy_Ψ
  rw [wy_Φcg hk hx]
theorem wy_Ψat {r : Nat → Int} {k a : Nat} {f : Nat → Int32} (ha : a < 800) : wy_Ψ r k f (200 + a) = wy_Φ r k a := by
  funext v
  unfold wy_Ψ
  have e : Nat.blt (200 + a) 1000 = true := Nat.ble_eq_true_of_le (by omega)
  rw [e]
  show wy_Φ r k (200 + a - 200) v = _
  rw [Nat.add_sub_cancel_left]
theorem wy_spec_ok {r : Nat → Int} {k : Nat} (hk : k < 4) : wy_spec (wy_Φ r k) := by
  intro a ha x hx
  obtain ⟨-, -, -, hsp⟩ := fc_ck_ok (wy_ckB k hk a ha)
  rcases fc_F_or 108 r (wy_EF k).1 (fc_fs (wy_OB k) (wy_EF k) wy_hB wy_sB (wy_LB k a) (wy_qB k a)) (wy_ΨB r k) (x : Int) with h | h
  · obtain ⟨f, hf, y, r', h1, h2, h3, h4, h5, h6, h7⟩ := h
    have sp := List.all_eq_true.mp hsp f hf
    have h7 : wy_Φ r k a (x : Int) = ai_vx r' y := h7
    unfold wy_sp at sp
    rw [h1] at sp
    dsimp only at sp
    obtain ⟨t, c⟩ := y
    have hb := ai_iv_ok h5 h4
    cases et : Nat.beq t 0 with
    | true =>
      rw [et] at sp
      left
      have e0 := Nat.eq_of_beq_eq_true et
      have e1 : c = -1 := ai_eq_iff.mp sp
      rw [h7]
      show r' t + c = -1
      rw [e0, e1, h5.1]
      rfl
    | false =>
      rw [et] at sp
      dsimp only at sp
      simp only [Bool.and_eq_true] at sp
      obtain ⟨s1, s2, s3, s4⟩ := sp
      have s1 : c = 0 := ai_eq_iff.mp s1
      have s3 := ai_le_iff.mp s3
      have s4 := ai_le_iff.mp s4
      subst s1
      have hor := wy_or_ok (r := r') (fun d hd => (h5.2.2.2.2 d hd).2.2.2) s2
      have e9 : r' 109 = (x : Int) := by
        rw [← wy_NF hk]
        exact h3
      have e1 : ai_vx r' (t, 0) = r' t := Int.add_zero _
      rw [e1] at hb h7
      rw [e9, wy_nv_nat (by omega) (by omega), wy_nv_nat (z := r' t) (by omega) (by omega)] at hor
      right
      refine ⟨(r' t).toNat, by omega, by omega, ?_⟩
      rw [Int.toNat_natCast] at hor
      exact hor
  · exact Or.inl h
/-! the ghost's world -/
noncomputable def wy_S (tyc : Nat → ClassId) (ws0 ws1 : va_W) (f : Nat → Int32) : Prop := hg_ia tyc ws1 329 4096 f ∧ (∀ x : Nat, x < 4096 → -1 ≤ (f x).toInt ∧ (f x).toInt ≤ 12) ∧ ∀ x, x + 16 < 336 → x ≠ 313 → ai_cell wy_GP.2.1 (x + 16) = none → ws1[x]? = ws0[x]?
theorem wy_Pw {tyc : Nat → ClassId} {ws0 ws1 : va_W} {f : Nat → Int32} (hPw : ai_Pw tyc ws0) (h : wy_S tyc ws0 ws1 f) : ai_Pw tyc ws1 := by
  obtain ⟨h1, h2, h3, h4⟩ := wy_off
  exact hPw.same (h.2.2 270 (by omega) (by omega) (Option.isNone_iff_eq_none.mp h1)) (h.2.2 272 (by omega) (by omega) (Option.isNone_iff_eq_none.mp h2)) (h.2.2 273 (by omega) (by omega) (Option.isNone_iff_eq_none.mp h3)) (h.2.2 274 (by omega) (by omega) (Option.isNone_iff_eq_none.mp h4)) (fun p hp => h.2.2 p.1 (by have := ai_xs_lt hp; omega) (by have := ai_xs_lt hp; omega) (Option.isNone_iff_eq_none.mp (List.all_eq_true.mp wy_offx p hp)))
theorem wy_Sset {tyc : Nat → ClassId} {ws0 ws1 ws2 : va_W} {f f1 : Nat → Int32} {j : Nat} (h : wy_S tyc ws0 ws1 f) (h1 : hg_ia tyc ws2 329 4096 f1) (h2 : -1 ≤ (f1 j).toInt ∧ (f1 j).toInt ≤ 12) (h3 : ∀ x, x ≠ j → f1 x = f x) (h4 : ∀ x, x ≠ 329 - 16 → ws2[x]? = ws1[x]?) : wy_S tyc ws0 ws2 f1 :=
  ⟨h1, fun x hx => by
    by_cases e : x = j
    · rw [e]; exact h2
    · rw [h3 x e]; exact h.2.1 x hx, fun x a b c => (h4 x (by omega)).trans (h.2.2 x a b c)⟩
theorem fn_Esub {E : ai_E} {b : Int × Int} {r r00 : Nat → Int} {nb : List (Int × Int)} (hE00 : ai_gE r00 E) (hE : ai_gE r (sm_E E (b :: nb))) : ai_gE r (sm_E E [b]) := by
  obtain ⟨N, lb, ds⟩ := E
  refine ⟨hE.1, Nat.succ_pos _, fun t ht => hE.2.2.1 t ?_, fun q hq => ?_, fun q hq => by cases hq⟩
  · have ht : t < N + 1 := ht
    show t < N + (nb.length + 1)
    omega
  · rcases List.mem_append.mp hq with hq | hq
    · rcases List.mem_cons.mp hq with rfl | hq
      · have hm : (N, b) ∈ (sm_E (N, lb, ds) (b :: nb)).2.1 := List.mem_append_left _ (show (N, b) ∈ (N, b) :: sm_nb (N + 1) nb from List.mem_cons_self)
        exact ⟨Nat.lt_succ_self _, (hE.2.2.2.1 _ hm).2⟩
      · cases hq
    · exact ⟨Nat.lt_succ_of_lt (hE00.2.2.2.1 q hq).1, (hE.2.2.2.1 q (List.mem_append_right _ hq)).2⟩
theorem wy_EFof {k : Nat} {r r00 : Nat → Int} {nb : List (Int × Int)} (hE00 : ai_gE r00 (wy_E0 k)) (hE : ai_gE r (sm_E (wy_E0 k) (wy_R :: nb))) : ai_gE r (wy_EF k) := fn_Esub hE00 hE
theorem wy_padB (k a : Nat) : ai_pad 10 (fc_aa 109 [.ofNat a, .ofNat k]) = some (wy_LB k a) := rfl
theorem wy_padC (k : Nat) : ai_pad 5 (fc_aa 109 [.ofNat k]) = some (wy_LC k) := rfl
section WY
variable {p : Program} {l : Launch} {e : Env} {s : State} {m : MethodId} {args : Array Value} {below : List Frame} {meth : Method} {c : Code} {Q : State → Prop}
variable {D : va_G} {tyc : Nat → ClassId} {A : Nat → Prop} {sa : ai_B} {ws0 : va_W} {k : Nat} {r00 : Nat → Int} {ad0 : Nat → Nat}
theorem wy_fc {ws1 : va_W} {r : Nat → Int} {ad : Nat → Nat} {f : Nat → Int32} (hk : k < 4) (hE : ai_gE r (wy_EF k)) : ∀ q ∈ wy_OW k, ls_plain q.2.1 = true ∧ q.2.1 < 1000 ∧ 100 ≤ q.1 ∧ fc_Ct l D tyc A sa ws1 r ad (wy_EF k) wy_hB (wy_Ψ r k f q.1) 39 q := by
  intro q hq
  obtain ⟨a, ha, rfl⟩ := List.mem_map.mp hq
  have ha := List.mem_range.mp ha
  obtain ⟨p1, p2, p3, p4⟩ := wy_pl2
  obtain ⟨n1, n2, n3, n4⟩ := wy_nl
  obtain ⟨m1, m2, m3⟩ := wy_N.1 k hk
  have h264 : 264 < wy_hB.1 := by
    rw [wy_N.2.1]
    omega
  have hN := wy_NF hk
  refine ⟨p3, by show 251 < 1000; omega, by show 100 ≤ 200 + a; omega, ?_⟩
  show fc_Ct l D tyc A sa ws1 r ad (wy_EF k) wy_hB (wy_Ψ r k f (200 + a)) 39 (wy_qB k a)
  rw [wy_Ψat (by omega)]
  refine fc_new (OT := wy_OB k) (stop := wy_sB) (L0 := wy_LB k a) (sp := wy_sp) (R := 108) (Ψ := wy_ΨB r k) (q := wy_qB k a) p3 rfl m3 h264 (wy_tl k hk a ha) (by
    have e1 : (wy_qB k a).2.1 = 251 := rfl
    rw [e1, n3, hN]
    exact wy_padB k a) (wy_ckB k hk a ha) 38 hE (fun o ho => ?_)
  have t1 := wy_tl k hk 0 (by omega)
  rw [List.all_cons, Bool.and_eq_true] at t1
  rcases List.mem_cons.mp ho with rfl | ho
  · refine ⟨p1, by show 249 < 1000; omega, by show 100 ≤ 101; omega, ?_⟩
    exact fc_new (OT := []) (stop := [76]) (L0 := wy_LC k) (sp := fun _ => true) (R := 108) (Ψ := fun _ _ => 0) (q := wy_qC k) p1 rfl m3 h264 t1.2 (by
      have e1 : (wy_qC k).2.1 = 249 := rfl
      rw [e1, n1, hN]
      exact wy_padC k) (wy_ckC k hk) 37 hE (fun o ho => by cases ho)
  · rcases List.mem_cons.mp ho with rfl | ho
    · refine ⟨p2, by show 250 < 1000; omega, by show 100 ≤ 102; omega, ?_⟩
      exact fc_new (OT := []) (stop := [49]) (L0 := wy_LC k) (sp := fun _ => true) (R := 108) (Ψ := fun _ _ => 0) (q := wy_qS k) p2 rfl m3 h264 t1.2 (by
        have e1 : (wy_qS k).2.1 = 250 := rfl
        rw [e1, n2, hN]
        exact wy_padC k) (wy_ckS k hk) 37 hE (fun o ho => by cases ho)
    · cases ho
theorem wy_run {stop : List Nat} {skip : Bool} {pc : Nat} {L : List ai_V} {nb : List (Int × Int)} {chk : ai_F × List fn_L → Bool} {ws1 : va_W} {f : Nat → Int32} {r : Nat → Int} {ad : Nat → Nat} {H : Heap} {locs : List Loc} {ls : Array Slot} {st : List Value} (h : wy_chk k stop skip pc L nb chk = true) (hk : k < 4) (F : ls_Fr p (lt_rm (39 + 1) 252) s m args meth c D tyc A sa 252) (hE00 : ai_gE r00 (wy_E0 k))
    (hR : ai_Rel D tyc A s sa ws1 (ct_mt 252).2.2.1 r ad L [] (wy_G k nb) H locs ls st) (hx : ai_ext 108 r00 r) (hS : wy_S tyc ws0 ws1 f)
    (kk : ∀ g, chk g = true → ∀ (r' : Nat → Int) (ad' : Nat → Nat), ai_ext (109 + nb.length) r r' → ai_ext 336 ad ad' → (∀ x ∈ g.2, fn_m (wy_Ψ r00 k f) r' x) → ∀ (H' : Heap) (locs' : List Loc) (ls' : Array Slot) (st' : List Value), ai_Rel D tyc A s sa ws1 (ct_mt 252).2.2.1 r' ad' g.1.2.1 g.1.2.2.1 g.1.2.2.2 H' locs' ls' st' → W p l e (lt_rm (39 + 1) 252) s m args below meth c H' locs' g.1.2.2.2.2.2.1 g.1.2.2.2.2.2.2 Q (F0 m g.1.1 ls' st')) :
    W p l e (lt_rm (39 + 1) 252) s m args below meth c H locs 0 0 Q (F0 m pc ls st) := by
  unfold wy_chk at h
  split at h
  · rename_i fs hfs
    have hE := hR.env
    have hEF := wy_EFof hE00 hE
    obtain ⟨m1, m2, m3⟩ := wy_N.1 k hk
    have hB := wy_N.2.1
    refine fn_ok (n := 39) (r0 := r) (ad0 := ad) (E0 := wy_EF k) (h0 := wy_hB) (Φ := wy_Ψ r k f) wy_pl2.2.2.2 F (wy_fc hk hEF) (fun q hq => ?_) m3 hEF (by rw [hB]; omega) 10000 skip [] pc L [] (wy_G k nb) fs r ad H locs ls st hfs hR ai_ext.rfl' ai_ext.rfl' (by show (wy_E0 k).1 + 1 ≤ (wy_E0 k).1 + (nb.length + 1); omega) (Nat.le_refl _) (fun x hx => by cases hx) (fun g hg r' ad' x1 x2 x3 x4 H' locs' ls' st' hR' => ?_)
    · rcases List.mem_cons.mp hq with rfl | hq
      · refine ⟨by show 16 ≤ 329; omega, f, hS.1, fun j hj => ⟨(hS.2.1 j hj).1, (hS.2.1 j hj).2, rfl⟩⟩
      · cases hq
    · refine kk g (List.all_eq_true.mp h g hg) r' ad' ?_ (by rw [hB] at x2; exact x2) (fun x hx' => ?_) H' locs' ls' st' hR'
      · have x1 : ai_ext ((wy_E0 k).1 + (nb.length + 1)) r r' := x1
        rw [m1] at x1
        exact x1.mono (by omega)
      · rw [← wy_Ψcg hk hx f]
        exact (x4 x hx').2
  · cases h
theorem wy_to_ok {nb : List (Int × Int)} {pc : Nat} {L' : List ai_V} {o : List (Nat × ai_X)} {g : ai_F} {ws1 : va_W} {r : Nat → Int} {ad : Nat → Nat} {H : Heap} {locs : List Loc} {ls : Array Slot} {st : List Value} (h : wy_to k nb pc L' o g = true) (hk : k < 4) (hE00 : ai_gE r00 (wy_E0 k)) (hx : ai_ext 108 r00 r) (hR : ai_Rel D tyc A s sa ws1 (ct_mt 252).2.2.1 r ad g.2.1 g.2.2.1 g.2.2.2 H locs ls st) :
    g.1 = pc ∧ g.2.2.2.2.2.1 = 0 ∧ g.2.2.2.2.2.2 = 0 ∧ ∃ r2, ai_ext 108 r00 r2 ∧ ai_Rel D tyc A s sa ws1 (ct_mt 252).2.2.1 r2 ad L' [] (wy_G k nb) H locs ls st ∧ ∀ q ∈ o, r2 q.1 = ai_vx r q.2 := by
  unfold wy_to at h
  simp only [Bool.and_eq_true, decide_eq_true_eq] at h
  obtain ⟨h1, h2, h3, h4, h5, h6⟩ := h
  obtain ⟨m1, m2, m3⟩ := wy_N.1 k hk
  have h4 := Nat.eq_of_beq_eq_true h4
  have h5 := Nat.eq_of_beq_eq_true h5
  rw [h2] at hR
  obtain ⟨r2, a1, a2, a3⟩ := hw_okY hE00 m2 (by rw [m1]; exact hx) (by rw [m1]; exact Nat.le_of_ble_eq_true h3) hR h6
  rw [m1] at a1
  refine ⟨Nat.eq_of_beq_eq_true h1, h4, h5, r2, a1, ?_, a3⟩
  have gz : g.2.2.2.2.2 = (0, 0) := Prod.ext h4 h5
  rw [gz] at a2
  exact a2
/-- what is read of far -/
theorem wy_rd {f : Nat → Int32} {r' : Nat → Int} {x y : ai_X} {b : Bool} (h : fn_m (wy_Ψ r00 k f) r' (1329, x, y, b)) : ai_vx r' y = (f (ai_vx r' x).toNat).toInt := fn_m_fun' (by omega) h
theorem wy_act {f : Nat → Int32} {r' : Nat → Int} {x y : ai_X} {b : Bool} {a : Nat} (ha : a < 800) (h : fn_m (wy_Ψ r00 k f) r' (200 + a, x, y, b)) : ai_vx r' y = wy_Φ r00 k a (ai_vx r' x) := by
  have := fn_m_fun' (by omega) h
  rw [wy_Ψat ha] at this
  exact this
/-- a write to far, and on to a loop's head -/
theorem wy_wr_ok {pc tgt : Nat} {v : ai_X} {lg : List fn_L} {nb : List (Int × Int)} {L' : List ai_V} {o : List (Nat × ai_X)} {g : ai_F × List fn_L} {ws1 : va_W} {f : Nat → Int32} {r : Nat → Int} {ad : Nat → Nat} {H : Heap} {locs : List Loc} {ls : Array Slot} {st : List Value} {j : Nat} (h : wy_wr k pc v lg tgt nb L' o g = true) (hdg : decode (ct_mt 252).2.1 pc = .ok (.iastore, 1)) (hk : k < 4) (F : ls_Fr p (lt_rm (39 + 1) 252) s m args meth c D tyc A sa 252) (hl : l.stackTraces = false) (hPw : ai_Pw tyc ws0) (hE00 : ai_gE r00 (wy_E0 k)) (hx : ai_ext 108 r00 r) (hS : wy_S tyc ws0 ws1 f)
    (hR : ai_Rel D tyc A s sa ws1 (ct_mt 252).2.2.1 r ad g.1.2.1 g.1.2.2.1 g.1.2.2.2 H locs ls st) (hj : j < 4096) (hrj : r 110 = (j : Int)) (hv : -1 ≤ ai_vx r v ∧ ai_vx r v ≤ 12)
    (kk : ∀ (ws2 : va_W) (f1 : Nat → Int32) (r2 : Nat → Int) (ad2 : Nat → Nat) (H2 : Heap) (locs2 : List Loc) (ls2 : Array Slot) (st2 : List Value), wy_S tyc ws0 ws2 f1 → (f1 j).toInt = ai_vx r v → (∀ x, x ≠ j → f1 x = f x) → ai_ext 108 r00 r2 → ai_ext 336 ad ad2 → ai_Rel D tyc A s sa ws2 (ct_mt 252).2.2.1 r2 ad2 L' [] (wy_G k nb) H2 locs2 ls2 st2 → (∀ q ∈ o, q.2.1 < 111 → r2 q.1 = ai_vx r q.2) → W p l e (lt_rm (39 + 1) 252) s m args below meth c H2 locs2 0 0 Q (F0 m tgt ls2 st2)) :
    W p l e (lt_rm (39 + 1) 252) s m args below meth c H locs g.1.2.2.2.2.2.1 g.1.2.2.2.2.2.2 Q (F0 m g.1.1 ls st) := by
  unfold wy_wr at h
  simp only [Bool.and_eq_true, decide_eq_true_eq] at h
  obtain ⟨h1, h2, h3, h4, h5, h7, h6⟩ := h
  have h1 := Nat.eq_of_beq_eq_true h1
  have h336 : g.1.2.2.2.2.1.1 = 336 := Nat.eq_of_beq_eq_true h7
  have h111 : 111 ≤ g.1.2.2.2.1.1 := Nat.le_of_ble_eq_true h5
  rw [h1]
  rw [h2] at hR
  have hi : ai_vx r (110, 0) = (j : Int) := by
    show r 110 + 0 = _
    rw [hrj, Int.add_zero]
  refine hg_iast F hdg hR (by omega) (Option.isNone_iff_eq_none.mp h4) hS.1 hj hi (fun ws2 H1 locs1 st1 f1 q1 q2 q3 q4 hR1 => ?_)
  have hS2 : wy_S tyc ws0 ws2 f1 := wy_Sset (j := j) hS q1 (by rw [q2]; exact hv) q3 q4
  refine lz_ok (T := []) (k0 := 0) (n := 39) wy_pl2.2.2.2 F hl trivial (by omega) (wy_Pw hPw hS2) h6 hR1 (fun z hz => ?_)
  intro r' ad' w1 w2 w3 w4 H2 locs2 ls2 st2 hR2
  have w1' : ai_ext 111 r r' := w1.mono h111
  obtain ⟨e1, e2, e3, r2, z1, hR3, z3⟩ := wy_to_ok hz hk hE00 (fun u hu => (w1' u (by omega)).trans (hx u hu)) hR2
  rw [e1, e2, e3]
  refine kk ws2 f1 r2 ad' H2 locs2 ls2 st2 hS2 q2 q3 z1 (by rw [h336] at w2; exact w2) hR3 (fun q hq hq2 => ?_)
  rw [z3 q hq]
  exact w1'.vx hq2
theorem wy_wr_has {pc tgt : Nat} {v : ai_X} {lg : List fn_L} {nb : List (Int × Int)} {L' : List ai_V} {o : List (Nat × ai_X)} {g : ai_F × List fn_L} (h : wy_wr k pc v lg tgt nb L' o g = true) : ∀ x ∈ lg, x ∈ g.2 := by
  unfold wy_wr at h
  simp only [Bool.and_eq_true] at h
  exact wy_has_ok h.2.2.1
end WY
