/-! BY HAND: way: the loops -/
section WY
variable {p : Program} {l : Launch} {e : Env} {s : State} {m : MethodId} {args : Array Value} {below : List Frame} {meth : Method} {c : Code} {Q : State → Prop}
variable {D : va_G} {tyc : Nat → ClassId} {A : Nat → Prop} {sa : ai_B} {ws0 : va_W} {k : Nat} {r00 : Nat → Int} {ad0 : Nat → Nat}
/-- what is shown of a loop's head -/
noncomputable def wy_goal (p : Program) (l : Launch) (e : Env) (s : State) (m : MethodId) (args : Array Value) (below : List Frame) (meth : Method) (c : Code) (Q : State → Prop) (D : va_G) (tyc : Nat → ClassId) (A : Nat → Prop) (sa : ai_B) (ws0 : va_W) (k : Nat) (r00 : Nat → Int) (ad0 : Nat → Nat) (j : Nat) (L : List ai_V) (nb : List (Int × Int)) (pc : Nat) (P : (Nat → Int32) → (Nat → Int) → Prop) : Prop :=
  ∀ (ws1 : va_W) (f : Nat → Int32) (r : Nat → Int) (ad : Nat → Nat) (H : Heap) (locs : List Loc) (ls : Array Slot) (st : List Value), wy_S tyc ws0 ws1 f → (∀ x, j ≤ x → x < 4096 → wy_good (wy_Φ r00 k) f x) → ai_Rel D tyc A s sa ws1 (ct_mt 252).2.2.1 r ad L [] (wy_G k nb) H locs ls st → ai_ext 108 r00 r → ai_ext 336 ad0 ad → P f r → W p l e (lt_rm (39 + 1) 252) s m args below meth c H locs 0 0 Q (F0 m pc ls st)
theorem wy_p1in (hk : k < 4) (F : ls_Fr p (lt_rm (39 + 1) 252) s m args meth c D tyc A sa 252) (hl : l.stackTraces = false) (hPw : ai_Pw tyc ws0) (hE00 : ai_gE r00 (wy_E0 k)) {j : Nat} (hj : j < 4096)
    (next : wy_goal p l e s m args below meth c Q D tyc A sa ws0 k r00 ad0 j wy_L31 wy_n31 31 (fun _ r => r 110 = (j : Int) - 1)) :
    ∀ d a, a + d = 13 → wy_goal p l e s m args below meth c Q D tyc A sa ws0 k r00 ad0 j (wy_L77 a) wy_n77 77 (fun _ r => r 110 = (j : Int)) := by
  intro d
  induction d with
  | zero =>
    intro a ha ws1 f r ad H locs ls st hS hg hR hx hax hr
    have ha : a = 13 := by omega
    subst ha
    refine wy_run (wy_k13 k hk) hk F hE00 hR hx hS (fun g hgc r' ad' y1 y2 hlog H' locs' ls' st' hR' => ?_)
    have y1 : ai_ext 111 r r' := y1
    obtain ⟨e1, e2, e3, r2, z1, hR2, z3⟩ := wy_to_ok hgc hk hE00 (fun u hu => (y1 u (by omega)).trans (hx u hu)) hR'
    rw [e1, e2, e3]
    refine next ws1 f r2 ad' H' locs' ls' st' hS hg hR2 z1 (fun u hu => (y2 u hu).trans (hax u hu)) ?_
    have := z3 _ List.mem_cons_self
    have : r2 110 = r' 110 + -1 := this
    show r2 110 = (j : Int) - 1
    rw [this, y1 110 (by omega), hr]
    omega
  | succ d ih =>
    intro a ha ws1 f r ad H locs ls st hS hg hR hx hax hr
    refine wy_run (wy_k77 k hk a (by omega)) hk F hE00 hR hx hS (fun g hgc r' ad' y1 y2 hlog H' locs' ls' st' hR' => ?_)
    have y1 : ai_ext 111 r r' := y1
    have hx' : ai_ext 108 r00 r' := fun u hu => (y1 u (by omega)).trans (hx u hu)
    have hax' : ai_ext 336 ad0 ad' := fun u hu => (y2 u hu).trans (hax u hu)
    have hr' : r' 110 = (j : Int) := (y1 110 (by omega)).trans hr
    have v110 : ai_vx r' (110, 0) = (j : Int) := by
      show r' 110 + 0 = _
      rw [hr', Int.add_zero]
    -- a write
    have wr : ∀ (u : Nat) (ex : List fn_L), wy_wr k 158 (u, 1) (wy_lg a u ++ ex) 77 wy_n77 (wy_L77 (a + 1)) [(110, (110, 0))] g = true → ((∀ x ∈ ex, x ∈ g.2) → ai_vx r' (113, 0) = (f j).toInt → ∀ t : Nat, ai_vx r' (111, 0) = (t : Int) → t = j → 0 ≤ (f j).toInt → False) → W p l e (lt_rm (39 + 1) 252) s m args below meth c H' locs' g.1.2.2.2.2.2.1 g.1.2.2.2.2.2.2 Q (F0 m g.1.1 ls' st') := fun u ex hw hne => by
      have hin := wy_wr_has hw
      have fact : ∀ x ∈ wy_lg a u ++ ex, fn_m (wy_Ψ r00 k f) r' x := fun x hx => hlog x (hin x hx)
      have f0 := fact _ (List.mem_append_left _ (List.mem_cons_self))
      have f1 := fact _ (List.mem_append_left _ (List.mem_cons_of_mem _ List.mem_cons_self))
      have f2 := fact _ (List.mem_append_left _ (List.mem_cons_of_mem _ (List.mem_cons_of_mem _ List.mem_cons_self)))
      have f3 := fact _ (List.mem_append_left _ (List.mem_cons_of_mem _ (List.mem_cons_of_mem _ (List.mem_cons_of_mem _ List.mem_cons_self))))
      have f4 := fact _ (List.mem_append_left _ (List.mem_cons_of_mem _ (List.mem_cons_of_mem _ (List.mem_cons_of_mem _ (List.mem_cons_of_mem _ List.mem_cons_self)))))
      have f5 := fact _ (List.mem_append_left _ (List.mem_cons_of_mem _ (List.mem_cons_of_mem _ (List.mem_cons_of_mem _ (List.mem_cons_of_mem _ (List.mem_cons_of_mem _ List.mem_cons_self))))))
      have f0 := wy_act (by omega) f0
      rw [v110] at f0
      have f1 : ¬ ai_vx r' (111, 0) = ai_vx r' (0, -1) := fun q => by
        have := (fn_m_cmp' (by omega) f1).mpr q
        cases this
      have m1 : ai_vx r' (0, -1) = -1 := by
        show r' 0 + -1 = -1
        rw [hR'.env.1]
        rfl
      rw [m1] at f1
      have f2 := wy_rd f2
      have f3 : ¬ ai_vx r' (112, 0) = ai_vx r' (0, -1) := fun q => by
        have := (fn_m_cmp' (by omega) f3).mpr q
        cases this
      rw [m1] at f3
      have f4 := wy_rd f4
      have f5 := wy_rd f5
      rw [v110, Int.toNat_natCast] at f4
      rcases wy_spec_ok (r := r00) hk a (by omega) j hj with q | ⟨t, ht, q, -⟩
      · exact absurd (f0.trans q) f1
      · have et : ai_vx r' (111, 0) = (t : Int) := f0.trans q
        rw [et, Int.toNat_natCast] at f2 f5
        rw [f2] at f3
        have hbt := hS.2.1 t ht
        have hne' : t ≠ j := fun q2 => hne (fun x hx => hin x (List.mem_append_right _ hx)) f4 t et q2 (by rw [← q2]; omega)
        have hv : ai_vx r' (u, 1) = (f t).toInt + 1 := by
          have f5 : r' u + 0 = (f t).toInt := f5
          show r' u + 1 = _
          omega
        have hup : ∀ f1 : Nat → Int32, (f1 j).toInt = ai_vx r' (u, 1) → (∀ x, x ≠ j → f1 x = f x) → (∀ x, j ≤ x → x < 4096 → wy_good (wy_Φ r00 k) f1 x) ∧ 1 ≤ (f1 j).toInt ∧ (f1 j).toInt ≤ 12 := fun f1 h1 h2 => wy_good_upd (wy_spec_ok hk) h2 hj (by omega) ht q hne' (by omega) (by rw [h1, hv]) hg
        have hb : ai_vx r' (u, 1) ≤ 12 := by
          have h12 := (hup (fun x => if x = j then Int32.ofInt (ai_vx r' (u, 1)) else f x) (by
            show (if j = j then Int32.ofInt (ai_vx r' (u, 1)) else f j).toInt = _
            rw [if_pos rfl]
            exact Int32.toInt_ofInt_of_le (by omega) (by omega)) (fun x hx => if_neg hx)).2.2
          have h13 : (if j = j then Int32.ofInt (ai_vx r' (u, 1)) else f j).toInt ≤ 12 := h12
          rw [if_pos rfl, Int32.toInt_ofInt_of_le (by omega) (by omega)] at h13
          exact h13
        refine wy_wr_ok hw wy_dc.2 hk F hl hPw hE00 hx' hS hR' hj hr' ⟨by omega, hb⟩ (fun ws2 f1' r2 ad2 H2 locs2 ls2 st2 hS2 k1 k2 k3 k4 k5 k6 => ?_)
        refine ih (a + 1) (by omega) ws2 f1' r2 ad2 H2 locs2 ls2 st2 hS2 (hup f1' k1 k2).1 k5 k3 (fun u hu => (k4 u hu).trans (hax' u hu)) ?_
        have := k6 _ List.mem_cons_self (by show 110 < 111; omega)
        exact this.trans v110
    unfold wy_c77 at hgc
    rw [Bool.or_eq_true, Bool.or_eq_true] at hgc
    rcases hgc with hgc | hgc | hgc
    · obtain ⟨e1, e2, e3, r2, z1, hR2, z3⟩ := wy_to_ok hgc hk hE00 hx' hR'
      rw [e1, e2, e3]
      refine ih (a + 1) (by omega) ws1 f r2 ad' H' locs' ls' st' hS hg hR2 z1 hax' ?_
      exact (z3 _ List.mem_cons_self).trans v110
    · refine wr 114 _ hgc (fun hex e113 t et etj h0 => ?_)
      have x1 := hlog _ (hex _ List.mem_cons_self)
      have x1 : ai_vx r' (113, 0) = ai_vx r' (0, -1) := (fn_m_cmp' (by omega) x1).mp rfl
      have m1 : ai_vx r' (0, -1) = -1 := by
        show r' 0 + -1 = -1
        rw [hR'.env.1]
        rfl
      omega
    · refine wr 116 _ hgc (fun hex e113 t et etj h0 => ?_)
      have x1 := wy_rd (hlog _ (hex _ List.mem_cons_self))
      have x2 := wy_rd (hlog _ (hex _ (List.mem_cons_of_mem _ List.mem_cons_self)))
      have x3 := hlog _ (hex _ (List.mem_cons_of_mem _ (List.mem_cons_of_mem _ List.mem_cons_self)))
      have x3 : ¬ ai_vx r' (115, 0) ≤ ai_vx r' (114, 1) := fun q => by
        have := (fn_m_cmp' (by omega) x3).mpr q
        cases this
      rw [et, etj, Int.toNat_natCast] at x1
      rw [v110, Int.toNat_natCast] at x2
      have x1 : r' 114 + 0 = (f j).toInt := x1
      have x4 : ai_vx r' (114, 1) = r' 114 + 1 := rfl
      omega
theorem wy_p1 (hk : k < 4) (F : ls_Fr p (lt_rm (39 + 1) 252) s m args meth c D tyc A sa 252) (hl : l.stackTraces = false) (hPw : ai_Pw tyc ws0) (hE00 : ai_gE r00 (wy_E0 k))
    (next : wy_goal p l e s m args below meth c Q D tyc A sa ws0 k r00 ad0 0 wy_L31 wy_n31 31 (fun _ r => r 110 = -1)) :
    ∀ j, j ≤ 4096 → wy_goal p l e s m args below meth c Q D tyc A sa ws0 k r00 ad0 j wy_L31 wy_n31 31 (fun _ r => r 110 = (j : Int) - 1) := by
  intro j
  induction j with
  | zero =>
    intro _ ws1 f r ad H locs ls st hS hg hR hx hax hr
    exact next ws1 f r ad H locs ls st hS hg hR hx hax (by show r 110 = -1; rw [hr]; rfl)
  | succ j ih =>
    intro hj ws1 f r ad H locs ls st hS hg hR hx hax hr
    have hj' : j < 4096 := by omega
    have hr : r 110 = (j : Int) := by
      rw [hr]
      omega
    refine wy_run (wy_k31 k hk) hk F hE00 hR hx hS (fun g hgc r' ad' y1 y2 hlog H' locs' ls' st' hR' => ?_)
    have y1 : ai_ext 111 r r' := y1
    have hx' : ai_ext 108 r00 r' := fun u hu => (y1 u (by omega)).trans (hx u hu)
    have hax' : ai_ext 336 ad0 ad' := fun u hu => (y2 u hu).trans (hax u hu)
    have hr' : r' 110 = (j : Int) := (y1 110 (by omega)).trans hr
    have v110 : ai_vx r' (110, 0) = (j : Int) := by
      show r' 110 + 0 = _
      rw [hr', Int.add_zero]
    have z0 : ai_vx r' (0, 0) = 0 := by
      show r' 0 + 0 = 0
      rw [hR'.env.1]
      rfl
    have m1 : ai_vx r' (0, -1) = -1 := by
      show r' 0 + -1 = -1
      rw [hR'.env.1]
      rfl
    unfold wy_c31 at hgc
    rw [Bool.or_eq_true, Bool.or_eq_true] at hgc
    rcases hgc with hgc | hgc | hgc
    · have x1 := hlog _ (wy_has_ok hgc _ List.mem_cons_self)
      have x1 : ai_vx r' (110, 0) < ai_vx r' (0, 0) := (fn_m_cmp' (by omega) x1).mp rfl
      omega
    · refine wy_wr_ok hgc wy_dc.1 hk F hl hPw hE00 hx' hS hR' hj' hr' (by rw [m1]; omega) (fun ws2 f1 r2 ad2 H2 locs2 ls2 st2 hS2 k1 k2 k3 k4 k5 k6 => ?_)
      refine wy_p1in hk F hl hPw hE00 hj' (ih (by omega)) 13 0 rfl ws2 f1 r2 ad2 H2 locs2 ls2 st2 hS2 (fun x hx1 hx2 => ?_) k5 k3 (fun u hu => (k4 u hu).trans (hax' u hu)) ?_
      · by_cases e : x = j
        · subst e
          exact Or.inl (k1.trans m1)
        · exact wy_good_out (wy_spec_ok hk) k2 hx2 (by omega) (hg x (by omega) hx2)
      · exact (k6 _ List.mem_cons_self (by show 110 < 111; omega)).trans v110
    · refine wy_wr_ok hgc wy_dc.1 hk F hl hPw hE00 hx' hS hR' hj' hr' (by rw [z0]; omega) (fun ws2 f1 r2 ad2 H2 locs2 ls2 st2 hS2 k1 k2 k3 k4 k5 k6 => ?_)
      refine ih (by omega) ws2 f1 r2 ad2 H2 locs2 ls2 st2 hS2 (fun x hx1 hx2 => ?_) k5 k3 (fun u hu => (k4 u hu).trans (hax' u hu)) ?_
      · by_cases e : x = j
        · subst e
          have := wy_pop_le 12 x
          rw [z0] at k1
          exact Or.inr ⟨by omega, by omega, Or.inl k1⟩
        · exact wy_good_out (wy_spec_ok hk) k2 hx2 (by omega) (hg x (by omega) hx2)
      · have := k6 _ List.mem_cons_self (by show 110 < 111; omega)
        have : r2 110 = r' 110 + -1 := this
        show r2 110 = (j : Int) - 1
        rw [this, hr']
        omega
abbrev wy_Q (below : List Frame) (D : va_G) (tyc : Nat → ClassId) (A : Nat → Prop) (sa : ai_B) (ws0 : va_W) (r : Nat → Int) (ad : Nat → Nat) (args : Array Value) (s : State) : State → Prop := vx_MQ below (ai_Qc D tyc A sa ws0 r ad wy_E.1 336 (wy_W.map (sm_out wy_E))) (ai_XC D tyc A sa ws0 r ad wy_E.1 336 (wy_W.map (sm_out wy_E))) args s (lt_rm (39 + 1) 252).cells (lt_rm (39 + 1) 252).slots A
theorem wy_fin {rI : Nat → Int} {adI : Nat → Nat} {g : ai_F} {ws1 : va_W} {f : Nat → Int32} {r : Nat → Int} {ad : Nat → Nat} {H : Heap} {locs : List Loc} {ls : Array Slot} {st : List Value} (h : wy_fc' g = true) (F : ls_Fr p (lt_rm (39 + 1) 252) s m args meth c D tyc A sa 252) (hl : l.stackTraces = false) (hret : meth.sig.returnType = (ct_mt 252).2.2.2.1) (htb : ∀ x ∈ c.exceptionTable.toList, False) (hPw : ai_Pw tyc ws0) (hEI : ai_gE rI wy_E) (hS : wy_S tyc ws0 ws1 f)
    (hR : ai_Rel D tyc A s sa ws1 (ct_mt 252).2.2.1 r ad g.2.1 g.2.2.1 g.2.2.2 H locs ls st) (hx : ai_ext 107 rI r) (hax : ai_ext 336 adI ad) :
    W p l e (lt_rm (39 + 1) 252) s m args below meth c H locs g.2.2.2.2.2.1 g.2.2.2.2.2.2 (wy_Q below D tyc A sa ws0 rI adI args s) (F0 m g.1 ls st) := by
  unfold wy_fc' at h
  simp only [Bool.and_eq_true] at h
  obtain ⟨h1, h2, h3, h4, h5⟩ := h
  have h2 : g.2.2.2.2.1.1 = 336 := Nat.eq_of_beq_eq_true h2
  have h3 := Nat.le_of_ble_eq_true h3
  have hR2 := hg_out (q := 329) (n := 4096) (lo := -1) (hi := 12) (f := f) (ws0 := ws0) hR (by omega) (by omega) (Option.isNone_iff_eq_none.mp h1) hS.1 hS.2.1 (fun x hx1 hx2 hc => hS.2.2 x (by omega) (by omega) (by
    have := List.all_eq_true.mp h4 x (List.mem_range.mpr (by omega))
    rw [hc] at this
    simp only [Option.isSome_none, Bool.false_or, Bool.or_eq_true, Option.isNone_iff_eq_none] at this
    rcases this with q | q
    · exact absurd (Nat.eq_of_beq_eq_true q) hx2
    · exact q))
  obtain ⟨-, -, N3, N4, -, -, -⟩ := wy_N
  exact lz_fin_ok (G := wy_put g.2.2.2) (k0 := 0) (n := 39) (n0 := 336) (r0 := rI) (ad0 := adI) wy_pl2.2.2.2 F hl hret htb (show lt_all 0 [] from trivial) (by omega) hPw hEI N4 h5 hR2 (by rw [N3]; exact hx) hax (by rw [N3]; exact h3) (by show 336 ≤ g.2.2.2.2.1.1; omega)
theorem wy_p2in (hk : k < 4) (F : ls_Fr p (lt_rm (39 + 1) 252) s m args meth c D tyc A sa 252) (hE00 : ai_gE r00 (wy_E0 k)) {x d i t as : Nat} (hx4 : x < 4096) (has : as < 13) (ht : t < 4096) (hΦ : wy_Φ r00 k as (x : Int) = (t : Int))
    (next : wy_goal p l e s m args below meth c Q D tyc A sa ws0 k r00 ad0 0 wy_L198 wy_n198 198 (fun f r => ∃ y : Nat, y < 4096 ∧ r 110 = (y : Int) ∧ r 111 = (i : Int) + 1 ∧ r 108 = (i : Int) + 1 + d ∧ (f y).toInt = d)) :
    ∀ n a, a + n = as → wy_goal p l e s m args below meth c Q D tyc A sa ws0 k r00 ad0 0 (wy_L220 a) wy_n220 220 (fun f r => r 110 = (x : Int) ∧ r 111 = (i : Int) ∧ r 108 = (i : Int) + 1 + d ∧ r 112 = wy_Φ r00 k a (x : Int) ∧ (f x).toInt = (d : Int) + 1 ∧ 0 ≤ (f t).toInt ∧ (f t).toInt = d) := by
  intro n
  induction n with
  | zero => 
    intro a ha ws1 f r ad H locs ls st hS hg hR hx hax ⟨g1, g2, g3, g4, g5, g6, g7⟩
    have ha : a = as := by omega
    subst ha
    rw [hΦ] at g4
    refine wy_run (wy_k220 k hk a has) hk F hE00 hR hx hS (fun g hgc r' ad' y1 y2 hlog H' locs' ls' st' hR' => ?_)
    have y1 : ai_ext 113 r r' := y1
    have hx' : ai_ext 108 r00 r' := fun u hu => (y1 u (by omega)).trans (hx u hu)
    have hax' : ai_ext 336 ad0 ad' := fun u hu => (y2 u hu).trans (hax u hu)
    have v : ∀ u, u < 113 → ai_vx r' (u, 0) = r u := fun u hu => by
      show r' u + 0 = _
      rw [y1 u hu, Int.add_zero]
    have m1 : ai_vx r' (0, -1) = -1 := by
      show r' 0 + -1 = -1
      rw [hR'.env.1]
      rfl
    have v112 : ai_vx r' (112, 0) = (t : Int) := (v 112 (by omega)).trans g4
    have v110 : ai_vx r' (110, 0) = (x : Int) := (v 110 (by omega)).trans g1
    unfold wy_c220 at hgc
    simp only [Bool.or_eq_true, Bool.and_eq_true] at hgc
    rcases hgc with ⟨hh, hgc⟩ | ⟨hh, hgc⟩ | ⟨hh, hgc⟩ | ⟨hh, hgc⟩
    · obtain ⟨e1, e2, e3, r2, z1, hR2, z3⟩ := wy_to_ok hgc hk hE00 hx' hR'
      rw [e1, e2, e3]
      refine next ws1 f r2 ad' H' locs' ls' st' hS hg hR2 z1 hax' ⟨t, ht, ?_, ?_, ?_, g7⟩
      · exact (z3 _ (List.mem_cons_of_mem _ List.mem_cons_self)).trans v112
      · have := z3 _ (List.mem_cons_of_mem _ (List.mem_cons_of_mem _ List.mem_cons_self))
        have : r2 111 = r' 111 + 1 := this
        rw [this, y1 111 (by omega), g2]
      · exact ((z3 _ List.mem_cons_self).trans (v 108 (by omega))).trans g3
    · exfalso
      have x1 := hlog _ (wy_has_ok hh _ List.mem_cons_self)
      have x1 : ai_vx r' (112, 0) = ai_vx r' (0, -1) := (fn_m_cmp' (by omega) x1).mp rfl
      omega
    · exfalso
      have x1 := wy_rd (hlog _ (wy_has_ok hh _ List.mem_cons_self))
      have x2 := hlog _ (wy_has_ok hh _ (List.mem_cons_of_mem _ List.mem_cons_self))
      have x2 : ai_vx r' (113, 0) = ai_vx r' (0, -1) := (fn_m_cmp' (by omega) x2).mp rfl
      rw [v112, Int.toNat_natCast] at x1
      omega
    · exfalso
      have x1 := wy_rd (hlog _ (wy_has_ok hh _ List.mem_cons_self))
      have x2 := wy_rd (hlog _ (wy_has_ok hh _ (List.mem_cons_of_mem _ List.mem_cons_self)))
      have x3 := hlog _ (wy_has_ok hh _ (List.mem_cons_of_mem _ (List.mem_cons_of_mem _ List.mem_cons_self)))
      rw [v112, Int.toNat_natCast] at x1
      rw [v110, Int.toNat_natCast] at x2
      have x1 : r' 114 + 0 = (f t).toInt := x1
      have x4 : ai_vx r' (114, 1) = ai_vx r' (115, 0) := by
        rw [x2]
        show r' 114 + 1 = _
        omega
      have := (fn_m_cmp' (by omega) x3).mpr x4
      cases this
  | succ n ih =>
    intro a ha ws1 f r ad H locs ls st hS hg hR hx hax ⟨g1, g2, g3, g4, g5, g6, g7⟩
    refine wy_run (wy_k220 k hk a (by omega)) hk F hE00 hR hx hS (fun g hgc r' ad' y1 y2 hlog H' locs' ls' st' hR' => ?_)
    have y1 : ai_ext 113 r r' := y1
    have hx' : ai_ext 108 r00 r' := fun u hu => (y1 u (by omega)).trans (hx u hu)
    have hax' : ai_ext 336 ad0 ad' := fun u hu => (y2 u hu).trans (hax u hu)
    have v : ∀ u, u < 113 → ai_vx r' (u, 0) = r u := fun u hu => by
      show r' u + 0 = _
      rw [y1 u hu, Int.add_zero]
    have m1 : ai_vx r' (0, -1) = -1 := by
      show r' 0 + -1 = -1
      rw [hR'.env.1]
      rfl
    have v110 : ai_vx r' (110, 0) = (x : Int) := (v 110 (by omega)).trans g1
    have on : ∀ z, (201 + a, ((110, 0) : ai_X), ((z, 0) : ai_X), true) ∈ g.2 → wy_to k wy_n220 220 (wy_L220 (a + 1)) (wy_o220 z) g.1 = true → W p l e (lt_rm (39 + 1) 252) s m args below meth c H' locs' g.1.2.2.2.2.2.1 g.1.2.2.2.2.2.2 Q (F0 m g.1.1 ls' st') := fun z hz hto => by
      obtain ⟨e1, e2, e3, r2, z1, hR2, z3⟩ := wy_to_ok hto hk hE00 hx' hR'
      rw [e1, e2, e3]
      refine ih (a + 1) (by omega) ws1 f r2 ad' H' locs' ls' st' hS hg hR2 z1 hax' ⟨?_, ?_, ?_, ?_, g5, g6, g7⟩
      · exact (z3 _ (List.mem_cons_of_mem _ List.mem_cons_self)).trans v110
      · exact ((z3 _ (List.mem_cons_of_mem _ (List.mem_cons_of_mem _ List.mem_cons_self))).trans (v 111 (by omega))).trans g2
      · exact ((z3 _ List.mem_cons_self).trans (v 108 (by omega))).trans g3
      · have h1 := z3 _ (List.mem_cons_of_mem _ (List.mem_cons_of_mem _ (List.mem_cons_of_mem _ List.mem_cons_self)))
        have h2 := hlog _ hz
        rw [show 201 + a = 200 + (a + 1) by omega] at h2
        have h2 := wy_act (by omega) h2
        rw [v110] at h2
        exact h1.trans h2
    unfold wy_c220 at hgc
    simp only [Bool.or_eq_true, Bool.and_eq_true] at hgc
    rcases hgc with ⟨hh, hgc⟩ | ⟨hh, hgc⟩ | ⟨hh, hgc⟩ | ⟨hh, hgc⟩
    · have x0 := hlog _ (wy_has_ok hh _ List.mem_cons_self)
      have x1 := wy_rd (hlog _ (wy_has_ok hh _ (List.mem_cons_of_mem _ List.mem_cons_self)))
      have x2 := hlog _ (wy_has_ok hh _ (List.mem_cons_of_mem _ (List.mem_cons_of_mem _ List.mem_cons_self)))
      have x3 := wy_rd (hlog _ (wy_has_ok hh _ (List.mem_cons_of_mem _ (List.mem_cons_of_mem _ (List.mem_cons_of_mem _ List.mem_cons_self)))))
      have x4 := wy_rd (hlog _ (wy_has_ok hh _ (List.mem_cons_of_mem _ (List.mem_cons_of_mem _ (List.mem_cons_of_mem _ (List.mem_cons_of_mem _ List.mem_cons_self))))))
      have x5 := hlog _ (wy_has_ok hh _ (List.mem_cons_of_mem _ (List.mem_cons_of_mem _ (List.mem_cons_of_mem _ (List.mem_cons_of_mem _ (List.mem_cons_of_mem _ List.mem_cons_self))))))
      have x5 : ai_vx r' (114, 1) = ai_vx r' (115, 0) := (fn_m_cmp' (by omega) x5).mp rfl
      have x0 : ¬ ai_vx r' (112, 0) = ai_vx r' (0, -1) := fun q => by
        have := (fn_m_cmp' (by omega) x0).mpr q
        cases this
      have v112 : ai_vx r' (112, 0) = wy_Φ r00 k a (x : Int) := (v 112 (by omega)).trans g4
      rcases wy_spec_ok (r := r00) hk a (by omega) x hx4 with q | ⟨t', ht', q, -⟩
      · omega
      · have et : ai_vx r' (112, 0) = (t' : Int) := v112.trans q
        rw [et, Int.toNat_natCast] at x1 x3
        rw [v110, Int.toNat_natCast, g5] at x4
        have x3 : r' 114 + 0 = (f t').toInt := x3
        have x5 : r' 114 + 1 = ai_vx r' (115, 0) := x5
        obtain ⟨e1, e2, e3, r2, z1, hR2, z3⟩ := wy_to_ok hgc hk hE00 hx' hR'
        rw [e1, e2, e3]
        refine next ws1 f r2 ad' H' locs' ls' st' hS hg hR2 z1 hax' ⟨t', ht', ?_, ?_, ?_, by omega⟩
        · exact (z3 _ (List.mem_cons_of_mem _ List.mem_cons_self)).trans et
        · have := z3 _ (List.mem_cons_of_mem _ (List.mem_cons_of_mem _ List.mem_cons_self))
          have : r2 111 = r' 111 + 1 := this
          rw [this, y1 111 (by omega), g2]
        · exact ((z3 _ List.mem_cons_self).trans (v 108 (by omega))).trans g3
    · exact on 113 (wy_has_ok hh _ (List.mem_cons_of_mem _ List.mem_cons_self)) hgc
    · exact on 114 (wy_has_ok hh _ (List.mem_cons_of_mem _ (List.mem_cons_of_mem _ List.mem_cons_self))) hgc
    · exact on 116 (wy_has_ok hh _ (List.mem_cons_of_mem _ (List.mem_cons_of_mem _ (List.mem_cons_of_mem _ List.mem_cons_self)))) hgc
theorem wy_p2 {rI : Nat → Int} {adI : Nat → Nat} (hk : k < 4) (F : ls_Fr p (lt_rm (39 + 1) 252) s m args meth c D tyc A sa 252) (hl : l.stackTraces = false) (hret : meth.sig.returnType = (ct_mt 252).2.2.2.1) (htb : ∀ x ∈ c.exceptionTable.toList, False) (hPw : ai_Pw tyc ws0) (hEI : ai_gE rI wy_E) (hxI : ai_ext 107 rI r00) (hE00 : ai_gE r00 (wy_E0 k)) :
    ∀ d i : Nat, wy_goal p l e s m args below meth c (wy_Q below D tyc A sa ws0 rI adI args s) D tyc A sa ws0 k r00 adI 0 wy_L198 wy_n198 198 (fun f r => ∃ y : Nat, y < 4096 ∧ r 110 = (y : Int) ∧ r 111 = (i : Int) ∧ r 108 = (i : Int) + d ∧ (f y).toInt = d) := by
  intro d
  induction d with
  | zero =>
    intro i ws1 f r ad H locs ls st hS hg hR hx hax ⟨y, hy, g1, g2, g3, g4⟩
    refine wy_run (wy_k198 k hk) hk F hE00 hR hx hS (fun g hgc r' ad' y1 y2 hlog H' locs' ls' st' hR' => ?_)
    have y1 : ai_ext 112 r r' := y1
    unfold wy_c198 at hgc
    simp only [Bool.or_eq_true, Bool.and_eq_true] at hgc
    rcases hgc with ⟨-, hgc⟩ | ⟨hh, -⟩
    · exact wy_fin hgc F hl hret htb hPw hEI hS hR' (fun u hu => ((y1 u (by omega)).trans (hx u (by omega))).trans (hxI u hu)) (fun u hu => (y2 u hu).trans (hax u hu))
    · exfalso
      have x1 := hlog _ (wy_has_ok hh _ List.mem_cons_self)
      have x2 : ¬ ai_vx r' (108, 0) ≤ ai_vx r' (111, 0) := fun q => by
        have := (fn_m_cmp' (by omega) x1).mpr q
        cases this
      have a1 : ai_vx r' (108, 0) = r' 108 + 0 := rfl
      have a2 : ai_vx r' (111, 0) = r' 111 + 0 := rfl
      rw [a1, a2, y1 108 (by omega), y1 111 (by omega)] at x2
      omega
  | succ d ih =>
    intro i ws1 f r ad H locs ls st hS hg hR hx hax ⟨y, hy, g1, g2, g3, g4⟩
    refine wy_run (wy_k198 k hk) hk F hE00 hR hx hS (fun g hgc r' ad' y1 y2 hlog H' locs' ls' st' hR' => ?_)
    have y1 : ai_ext 112 r r' := y1
    have hx' : ai_ext 108 r00 r' := fun u hu => (y1 u (by omega)).trans (hx u hu)
    have hax' : ai_ext 336 adI ad' := fun u hu => (y2 u hu).trans (hax u hu)
    unfold wy_c198 at hgc
    simp only [Bool.or_eq_true, Bool.and_eq_true] at hgc
    rcases hgc with ⟨-, hgc⟩ | ⟨hh, hgc⟩
    · exact wy_fin hgc F hl hret htb hPw hEI hS hR' (fun u hu => (hx' u (by omega)).trans (hxI u hu)) hax'
    · have v : ∀ u, u < 112 → ai_vx r' (u, 0) = r u := fun u hu => by
        show r' u + 0 = _
        rw [y1 u hu, Int.add_zero]
      rcases hg y (Nat.zero_le _) hy with q | ⟨-, -, q | ⟨as, t, h1, h2, h3, h4, h5⟩⟩
      · omega
      · omega
      · obtain ⟨e1, e2, e3, r2, z1, hR2, z3⟩ := wy_to_ok hgc hk hE00 hx' hR'
        rw [e1, e2, e3]
        refine wy_p2in (x := y) (d := d) (i := i) (t := t) (as := as) hk F hE00 hy h1 h2 h3 (fun ws2 f2 r3 ad3 H3 locs3 ls3 st3 hS3 hg3 hR3 hx3 hax3 hP => ?_) as 0 (by omega) ws1 f r2 ad' H' locs' ls' st' hS hg hR2 z1 hax' ⟨?_, ?_, ?_, ?_, by omega, h4, by omega⟩
        · obtain ⟨y', q1, q2, q3, q4, q5⟩ := hP
          exact ih (i + 1) ws2 f2 r3 ad3 H3 locs3 ls3 st3 hS3 hg3 hR3 hx3 hax3 ⟨y', q1, q2, by rw [q3]; omega, by rw [q4]; omega, q5⟩
        · exact ((z3 _ (List.mem_cons_of_mem _ List.mem_cons_self)).trans (v 110 (by omega))).trans g1
        · exact ((z3 _ (List.mem_cons_of_mem _ (List.mem_cons_of_mem _ List.mem_cons_self))).trans (v 111 (by omega))).trans g2
        · rw [((z3 _ List.mem_cons_self).trans (v 108 (by omega))).trans g3]
          omega
        · have h1 := z3 _ (List.mem_cons_of_mem _ (List.mem_cons_of_mem _ (List.mem_cons_of_mem _ List.mem_cons_self)))
          have h2 := wy_act (a := 0) (by omega) (hlog _ (wy_has_ok hh _ (List.mem_cons_of_mem _ List.mem_cons_self)))
          rw [v 110 (by omega), g1] at h2
          exact h1.trans h2
theorem wy_p3 {rI : Nat → Int} {adI : Nat → Nat} (hk : k < 4) (F : ls_Fr p (lt_rm (39 + 1) 252) s m args meth c D tyc A sa 252) (hl : l.stackTraces = false) (hret : meth.sig.returnType = (ct_mt 252).2.2.2.1) (htb : ∀ x ∈ c.exceptionTable.toList, False) (hPw : ai_Pw tyc ws0) (hEI : ai_gE rI wy_E) (hxI : ai_ext 107 rI r00) (hE00 : ai_gE r00 (wy_E0 k)) :
    wy_goal p l e s m args below meth c (wy_Q below D tyc A sa ws0 rI adI args s) D tyc A sa ws0 k r00 adI 0 wy_L31 wy_n31 31 (fun _ r => r 110 = -1) := by
  intro ws1 f r ad H locs ls st hS hg hR hx hax hr
  refine wy_run (wy_k171 k hk) hk F hE00 hR hx hS (fun g hgc r' ad' y1 y2 hlog H' locs' ls' st' hR' => ?_)
  have y1 : ai_ext 111 r r' := y1
  have hx' : ai_ext 108 r00 r' := fun u hu => (y1 u (by omega)).trans (hx u hu)
  have hax' : ai_ext 336 adI ad' := fun u hu => (y2 u hu).trans (hax u hu)
  have z0 : ai_vx r' (0, 0) = 0 := by
    show r' 0 + 0 = 0
    rw [hR'.env.1]
    rfl
  have m1 : ai_vx r' (0, -1) = -1 := by
    show r' 0 + -1 = -1
    rw [hR'.env.1]
    rfl
  unfold wy_c171 at hgc
  simp only [Bool.or_eq_true, Bool.and_eq_true] at hgc
  rcases hgc with hgc | ⟨-, hgc⟩ | ⟨hh, hgc⟩
  · exfalso
    have x1 := hlog _ (wy_has_ok hgc _ List.mem_cons_self)
    have x2 : ai_vx r' (110, 0) < ai_vx r' (0, 0) := by
      rw [z0]
      show r' 110 + 0 < 0
      rw [y1 110 (by omega), hr]
      omega
    have := (fn_m_cmp' (by omega) x1).mpr x2
    cases this
  · exact wy_fin hgc F hl hret htb hPw hEI hS hR' (fun u hu => (hx' u (by omega)).trans (hxI u hu)) hax'
  · have x1 := wy_rd (hlog _ (wy_has_ok hh _ List.mem_cons_self))
    have x2 := hlog _ (wy_has_ok hh _ (List.mem_cons_of_mem _ List.mem_cons_self))
    have x3 := wy_rd (hlog _ (wy_has_ok hh _ (List.mem_cons_of_mem _ (List.mem_cons_of_mem _ List.mem_cons_self))))
    have x2 : ai_vx r' (111, 0) ≠ ai_vx r' (0, -1) := (fn_m_cmp' (by omega) x2).mp rfl
    rw [z0] at x1 x3
    have x1 : ai_vx r' (111, 0) = (f 0).toInt := x1
    have x3 : ai_vx r' (112, 0) = (f 0).toInt := x3
    have hb := hS.2.1 0 (by omega)
    obtain ⟨e1, e2, e3, r2, z1, hR2, z3⟩ := wy_to_ok hgc hk hE00 hx' hR'
    rw [e1, e2, e3]
    refine wy_p2 hk F hl hret htb hPw hEI hxI hE00 (f 0).toInt.toNat 0 ws1 f r2 ad' H' locs' ls' st' hS hg hR2 z1 hax' ⟨0, by omega, ?_, ?_, ?_, by omega⟩
    · exact (z3 _ (List.mem_cons_of_mem _ List.mem_cons_self)).trans z0
    · exact (z3 _ (List.mem_cons_of_mem _ (List.mem_cons_of_mem _ List.mem_cons_self))).trans z0
    · have := (z3 _ List.mem_cons_self).trans x3
      rw [this]
      omega
end WY
theorem wy_N8 : wy_GD.1.1 = 108 ∧ ∀ k, k < 4 → (wy_Gk k).1.1 = 108 ∧ (wy_Gk k).2.1.1 = 336 ∧ (wy_Gk k).2.2.1 = 0 ∧ (wy_Gk k).2.2.2 = 0 := by decide +kernel
theorem cp_m_way : lt_ok 40 252 cn_m_way := by
  refine lt_hand (n := 39) wy_pl2.2.2.2 (by decide +kernel) wy_L0 (by
    rw [wy_nl.2.2.2]
    rfl) (fun l D tyc A sa hl ws0 r ad hPw hE p e s m args below meth c ls F hret htb hR => ?_)
  have hR : ai_Rel D tyc A s sa ws0 (ct_mt 252).2.2.1 r ad wy_L0 [] wy_G0 s.heap [] ls [] := hR
  have hE : ai_gE r wy_E := hE
  obtain ⟨N1, N2, N3, N4, N5, N6, N7⟩ := wy_N
  show W p l e (lt_rm (39 + 1) 252) s m args below meth c s.heap [] 0 0 (wy_Q below D tyc A sa ws0 r ad args s) (F0 m 0 ls [])
  refine lz_ok (G := wy_G0) (T := []) (k0 := 0) (n := 39) wy_pl2.2.2.2 F hl trivial (by omega) hPw wy_k0 hR (fun g hg => ?_)
  intro r1 ad1 x1 x2 x3 x4 H1 locs1 ls1 st1 hR1
  have x1 : ai_ext 107 r r1 := by rw [← N3]; exact x1
  have x2 : ai_ext 336 ad ad1 := by
    have : wy_G0.2.1.1 = 336 := rfl
    rw [this] at x2
    exact x2
  unfold wy_c0 at hg
  rw [Bool.or_eq_true] at hg
  rcases hg with hg | hg
  · simp only [Bool.and_eq_true, decide_eq_true_eq] at hg
    obtain ⟨h1, h2, h3, h4, h5⟩ := hg
    rw [Nat.eq_of_beq_eq_true h1]
    rw [h2] at hR1
    exact lz_fin_ok (T := []) (k0 := 0) (n := 39) (n0 := 336) (r0 := r) (ad0 := ad) wy_pl2.2.2.2 F hl hret htb (show lt_all 0 [] from trivial) (by omega) hPw hE N4 h5 hR1 (by rw [N3]; exact x1) x2 (by rw [N3]; exact Nat.le_of_ble_eq_true h3) (by rw [Nat.eq_of_beq_eq_true h4]; exact Nat.le_refl _)
  · unfold wy_to0 at hg
    simp only [Bool.and_eq_true, decide_eq_true_eq] at hg
    obtain ⟨h1, h2, h3, h4, h5, h6⟩ := hg
    have h4 := Nat.eq_of_beq_eq_true h4
    have h5 := Nat.eq_of_beq_eq_true h5
    rw [Nat.eq_of_beq_eq_true h1, h4, h5]
    rw [h2] at hR1
    obtain ⟨r2, y1, hR2⟩ := hw_ok (L' := wy_L18) (S' := []) hE N4 (by rw [N3]; exact x1) (by rw [N3]; exact Nat.le_of_ble_eq_true h3) hR1 h6
    rw [N3] at y1
    have gz : g.2.2.2.2.2 = (0, 0) := Prod.ext h4 h5
    rw [gz] at hR2
    have hR2 : ai_Rel D tyc A s sa ws0 (ct_mt 252).2.2.1 r2 ad1 wy_L18 [] wy_G18 H1 locs1 ls1 st1 := hR2
    obtain ⟨r3, y2, hR3⟩ := pn_ok hR2 wy_kp
    rw [N7] at y2
    have hR3 : ai_Rel D tyc A s sa ws0 (ct_mt 252).2.2.1 r3 ad1 wy_L18 [] wy_GP H1 locs1 ls1 st1 := hR3
    have h49 : 0 ≤ r3 107 ∧ r3 107 ≤ 3 := by
      have hb := hR2.env.2.2.2.1 (107, 0, 3) (by decide +kernel)
      have e49 := y2 107 (by omega)
      have hb1 : (0 : Int) ≤ r2 107 := hb.2.1
      have hb2 : r2 107 ≤ 3 := hb.2.2
      omega
    obtain ⟨ws1, f, i1, i2, i3, i4, hR4⟩ := hg_in hR3 (by omega) (by rw [N5]; omega) wy_far
    have hR4 : ai_Rel D tyc A s sa ws1 (ct_mt 252).2.2.1 r3 ad1 wy_L18 [] wy_GD H1 locs1 ls1 st1 := hR4
    have hS : wy_S tyc ws0 ws1 f := ⟨i1, i2, fun x q1 _ q2 => i3 x (by rw [N5]; exact q1) q2⟩
    obtain ⟨k, hk⟩ : ∃ k : Nat, r3 107 = (k : Int) := ⟨(r3 107).toNat, by omega⟩
    have hk4 : k < 4 := by omega
    have hR5 : ai_Rel D tyc A s sa ws1 (ct_mt 252).2.2.1 r3 ad1 wy_L18 [] (wy_Gk k) H1 locs1 ls1 st1 := hg_cap_ok hR4 (by
      have := wy_N8.1
      omega) (by rw [hk]; exact ⟨Int.le_refl _, Int.le_refl _⟩)
    have hE00 : ai_gE r3 (wy_E0 k) := hR5.env
    have hxI : ai_ext 107 r r3 := fun u hu => (y2 u (by omega)).trans (y1 u hu)
    obtain ⟨c1, c2, c3, c4⟩ := wy_N8.2 k hk4
    suffices key : W p l e (lt_rm (39 + 1) 252) s m args below meth c H1 locs1 (wy_Gk k).2.2.1 (wy_Gk k).2.2.2 (wy_Q below D tyc A sa ws0 r ad args s) (F0 m 18 ls1 st1) by
      rw [c3, c4] at key
      exact key
    refine lz_ok (G := wy_Gk k) (T := []) (k0 := 0) (n := 39) wy_pl2.2.2.2 F hl trivial (by omega) (wy_Pw hPw hS) (wy_k18 k hk4) hR5 (fun z hz => ?_)
    intro r6 ad6 u1 u2 u3 u4 H6 locs6 ls6 st6 hR6
    have u1 : ai_ext 108 r3 r6 := by
      rw [c1] at u1
      exact u1
    have u2 : ai_ext 336 ad1 ad6 := by
      rw [c2] at u2
      exact u2
    obtain ⟨e1, e2, e3, r7, z1, hR7, z3⟩ := wy_to_ok hz hk4 hE00 u1 hR6
    rw [e1, e2, e3]
    refine wy_p1 (ad0 := ad) hk4 F hl hPw hE00 (wy_p3 hk4 F hl hret htb hPw hE hxI hE00) 4096 (Nat.le_refl _) ws1 f r7 ad6 H6 locs6 ls6 st6 hS (fun x h1 h2 => absurd h2 (by omega)) hR7 z1 (fun u hu => (u2 u hu).trans (x2 u hu)) ?_
    have := z3 _ List.mem_cons_self
    have : r7 110 = r6 0 + 4095 := this
    show r7 110 = ((4096 : Nat) : Int) - 1
    rw [this, hR6.env.1]
    rfl
