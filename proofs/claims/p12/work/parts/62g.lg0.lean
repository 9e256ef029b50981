/-! LAW GLUE (1): a call of the law by a contract of PURE TRANSITIONS -/
noncomputable def gq_sk (pc mj : Nat) (S aa S' : List ai_V) : Bool := match lx_code pc with
  | some (i, len, a, b) => (match i with
    | .invokestatic _ => Nat.beq a mj && (Nat.beq len 3 && (match ai_call mj b (pc + 3) S with
      | some (.inr (.inl (m', aa', S2, p'))) => Nat.beq m' mj && (decide (aa' = aa) && (decide (S2 = S') && Nat.beq p' (pc + 3)))
      | _ => false))
    | _ => false)
  | none => false
theorem gq_sk_ok {pc mj : Nat} {S aa S' : List ai_V} (q : gq_sk pc mj S aa S' = true) : ∃ idx b, lx_code pc = some (.invokestatic idx, 3, mj, b) ∧ ai_call mj b (pc + 3) S = some (.inr (.inl (mj, aa, S', pc + 3))) := by
  unfold gq_sk at q
  split at q
  · rename_i i len a b ec
    split at q
    · rename_i idx
      simp only [Bool.and_eq_true] at q
      obtain ⟨h2, h3, h4⟩ := q
      have h2 := Nat.eq_of_beq_eq_true h2
      have h3 := Nat.eq_of_beq_eq_true h3
      subst h2 h3
      split at h4
      · rename_i m' aa' S2 p' ec2
        simp only [Bool.and_eq_true] at h4
        obtain ⟨k1, k2, k3, k4⟩ := h4
        have k1 := Nat.eq_of_beq_eq_true k1
        have k2 := of_decide_eq_true k2
        have k3 := of_decide_eq_true k3
        have k4 := Nat.eq_of_beq_eq_true k4
        subst k1 k2 k3 k4
        exact ⟨idx, b, ec, ec2⟩
      · cases h4
    · cases q
  · cases q
noncomputable def gq_sv (pc mj : Nat) (h : ai_H) (S aa S' : List ai_V) : Bool := match lx_code pc with
  | some (i, len, a, b) => Nat.beq (fn_knd i).1 3 && (Nat.beq a mj && (Nat.beq len 3 && (match ai_vcall mj (Nat.mod b 64) (Nat.div b 64) (pc + 3) S h with
    | some (.inr (.inl (m', aa', S2, p'))) => Nat.beq m' mj && (decide (aa' = aa) && (decide (S2 = S') && Nat.beq p' (pc + 3)))
    | _ => false)))
  | none => false
theorem gq_sv_ok {pc mj : Nat} {h : ai_H} {S aa S' : List ai_V} (q : gq_sv pc mj h S aa S' = true) : ∃ idx b, lx_code pc = some (.invokevirtual idx, 3, mj, b) ∧ ai_vcall mj (Nat.mod b 64) (Nat.div b 64) (pc + 3) S h = some (.inr (.inl (mj, aa, S', pc + 3))) := by
  unfold gq_sv at q
  split at q
  · rename_i i len a b ec
    simp only [Bool.and_eq_true] at q
    obtain ⟨h1, h2, h3, h4⟩ := q
    obtain ⟨idx, hi⟩ := fn_knd3 (Nat.eq_of_beq_eq_true h1)
    have h2 := Nat.eq_of_beq_eq_true h2
    have h3 := Nat.eq_of_beq_eq_true h3
    subst hi h2 h3
    split at h4
    · rename_i m' aa' S2 p' ec2
      simp only [Bool.and_eq_true] at h4
      obtain ⟨k1, k2, k3, k4⟩ := h4
      have k1 := Nat.eq_of_beq_eq_true k1
      have k2 := of_decide_eq_true k2
      have k3 := of_decide_eq_true k3
      have k4 := Nat.eq_of_beq_eq_true k4
      subst k1 k2 k3 k4
      exact ⟨idx, b, ec, ec2⟩
    · cases h4
  · cases q
noncomputable def gq_cl (kd : Bool) (pc mj : Nat) (h : ai_H) (S bb : List ai_V) : Bool := (Nat.blt mj 1000 && lh_plain mj) && (match kd with
  | true => gq_sk pc mj S bb [] && (ct_mt mj).2.2.2.2.1.isSome
  | false => gq_sv pc mj h S bb [])
noncomputable def gq_res (rt : Nat) (v : Option Int) (st : List Value) : Prop := match rt with
  | 0 => v = none ∧ st = []
  | 1 => ∃ i : Int32, v = some i.toInt ∧ st = [.int i]
  | _ => ∃ i : Int64, v = some i.toInt ∧ st = [.long i]
theorem gq_out {rt : Nat} {v : Option Value} {w : Option Int} (h : pt_out rt (.returned v) w) : gq_res rt w (v.toList ++ []) := by
  match rt, h with
  | 0, h =>
    have h : (Outcome.returned v = .returned none) ∧ w = none := h
    obtain ⟨h1, h2⟩ := h
    cases h1
    exact ⟨h2, rfl⟩
  | 1, h =>
    have h : ∃ i : Int32, Outcome.returned v = .returned (some (.int i)) ∧ w = some i.toInt := h
    obtain ⟨i, h1, h2⟩ := h
    cases h1
    exact ⟨i, h2, rfl⟩
  | rt + 2, h =>
    have h : ∃ i : Int64, Outcome.returned v = .returned (some (.long i)) ∧ w = some i.toInt := h
    obtain ⟨i, h1, h2⟩ := h
    cases h1
    exact ⟨i, h2, rfl⟩
noncomputable def gq_u : List ai_V := [.inr (.inr none), .inr (.inr none), .inr (.inr none), .inr (.inr none), .inr (.inr none), .inr (.inr none), .inr (.inr none)]
theorem gq_uget : ∀ i, ai_lget gq_u i = .inr (.inr none)
  | 0 => rfl
  | 1 => rfl
  | 2 => rfl
  | 3 => rfl
  | 4 => rfl
  | 5 => rfl
  | 6 => rfl
  | _ + 7 => rfl
noncomputable def gq_ot (Y : pt_Y) (q : Nat) : Bool := (ai_cell Y.2.1 q).isNone && Y.2.2.1.all (fun g => !(Nat.beq g.1 q))
noncomputable def gq_gn (Y : pt_Y) : Bool := Y.2.2.1.all (fun g => (Nat.ble 16 g.1 && Nat.blt g.1 336) && (ai_cell Y.2.1 g.1).isNone)
theorem gq_336 {Y : pt_Y} (hs : pt_sys Y) : Y.2.1.1 = 336 := by
  have hwf := hs.2
  unfold pt_wf at hwf
  simp only [Bool.and_eq_true] at hwf
  exact Nat.eq_of_beq_eq_true hwf.2.1
section GQC
variable {p : Program} {l : Launch} {e : Env} {R : Room} {s : State} {m : MethodId} {args : Array Value} {below : List Frame} {meth : Method} {c : Code} {Q : State → Prop}
variable {M0 : Nat → Nat → Int} {D : va_G} {tyc : Nat → ClassId} {A : Nat → Prop} {sa : ai_B} {ws : va_W} {Y : pt_Y} {n mj rt pc N cs sl : Nat} {r r1 : Nat → Int} {ad : Nat → Nat} {L S bb : List ai_V} {kd : Bool} {H : Heap} {locs : List Loc} {ls : Array Slot} {st : List Value}
variable {Pre : (Nat → Int) → (Nat → Nat → Int) → Prop} {Post : (Nat → Int) → (Nat → Nat → Int) → (Nat → Int) → (Nat → Nat → Int) → Option Int → Prop}
set_option maxHeartbeats 2000000 in
theorem gq_call (F : lx_Fr p R s m args meth c D tyc A sa) (hl : l.stackTraces = false) (hs : pt_sys Y) (hgn : gq_gn Y = true) (hcl : gq_cl kd pc mj Y.2.1 S bb = true) (hMet : pt_Met n mj Y bb Pre Post rt) (hn : (lt_rm n mj).frames + 1 ≤ R.frames ∧ (lt_rm n mj).locals + 64 ≤ R.locals) (hpw : ai_Pw tyc ws) (hM : pt_M tyc Y.2.2.1 ws M0) (hpre : Pre r1 M0) (gL : ai_gL r ad N 336 7 L ls) (gS : ai_gF r1 ad Y.1.1 336 S st) (hWd : ai_Wd D tyc A sa ws r1 ad (Y.1, Y.2.1, cs, sl) H) (hSt : va_S A s.heap H locs) (hroom : cs + (lt_rm n mj).cells ≤ R.cells ∧ sl + (lt_rm n mj).slots ≤ R.slots)
    (k : ∀ (T : Heap) (locs1 : List Loc) (v : Option Int) (st2 : List Value) (r2 : Nat → Int) (M2 : Nat → Nat → Int) (ws2 : va_W) (c2 : Nat → Nat → Int), Post r1 M0 r2 M2 v → gq_res rt v st2 → gq_W D A sa ws2 ad T → ai_gE r2 Y.1 → gq_K tyc ws2 r2 ad Y.1.1 Y.2.1 c2 (fun _ => true) → pt_M tyc Y.2.2.1 ws2 M2 → (∀ k, k + 16 < 336 → gq_ot Y (k + 16) = true → ws2[k]? = ws[k]?) → va_S A s.heap T locs1 → W p l e R s m args below meth c T locs1 (cs + (lt_rm n mj).cells) (sl + (lt_rm n mj).slots) Q (F0 m (pc + 3) ls st2)) :
    W p l e R s m args below meth c H locs cs sl Q (F0 m pc ls st) := by
  have good : ∀ w ∈ ft_W, goodWord w = true := fun w hw => (List.mem_filter.mp hw).2
  have nk : ∀ w ∈ ft_N, ai_nk w = true := fun w hw => (List.mem_filter.mp hw).2
  have h336 := gq_336 hs
  have gLu : ai_gL r1 ad Y.1.1 Y.2.1.1 7 gq_u ls := by
    obtain ⟨g1, g2, g3, g4⟩ := gL
    exact ⟨rfl, g2, g3, fun i hi => absurd (gq_uget i) hi⟩
  have hR : ai_Rel D tyc A s sa ws 7 r1 ad gq_u S (Y.1, Y.2.1, cs, sl) H locs ls st := ai_Wd.rel hWd hSt gLu (by
    show ai_gF r1 ad Y.1.1 Y.2.1.1 S st
    rw [h336]
    exact gS)
  have met : ∀ As : List Value, ai_gF r1 ad Y.1.1 Y.2.1.1 bb As → ai_Wd D tyc A sa ws r1 ad (Y.1, Y.2.1, 0, 0) H → vx_Met l (ct_mt mj).1 (ai_cw (ct_mt mj) :: ft_W) (lt_rm n mj) (fun a U => a = As.toArray ∧ U.heap = H ∧ ai_St D tyc A sa ct_strs ft_N U ∧ ∀ q, H.size ≤ q → A q) (pt_Q D tyc A sa ws ad Y (Post r1 M0) rt) (fun _ _ _ => False) (lt_rm n mj).cells (lt_rm n mj).slots A := fun As gA hWd' => hMet l D tyc A sa hl ws r1 ad H As M0 hpw hM hpre hWd' (by rw [← h336]; exact gA)
  have fin : ∀ (a : Array Value) (st0 t : State) (v : Option Value) (rest : List Value) (locs1 : List Loc), st0.heap = H → pt_Q D tyc A sa ws ad Y (Post r1 M0) rt a st0 (.returned v) t → ai_gF r1 ad Y.1.1 Y.2.1.1 [] rest → (va_F A st0 t → va_S A s.heap t.heap locs1) → W p l e R s m args below meth c t.heap locs1 (cs + (lt_rm n mj).cells) (sl + (lt_rm n mj).slots) Q (F0 m (pc + 3) ls (v.toList ++ rest)) := fun a st0 T v rest locs1 he hq hrest hS1 => by
    obtain ⟨v', r2, M2, ws2, hout, hpost, hpw2, hgh2, hM2, hWd2, hF⟩ := hq
    have er : rest = [] := by
      cases rest with
      | nil => rfl
      | cons _ _ => exact hrest.elim
    subst er
    obtain ⟨wsA, c2, W2, hE2, K2, sm2⟩ := gq_of h336 hWd2
    refine k T.heap locs1 v' (v.toList ++ []) r2 M2 wsA c2 hpost (gq_out hout) W2 hE2 K2 (gq_Mmv hM2 (fun q hq => ?_)) (fun q hq hn => ?_) (hS1 hF)
    · have g := List.all_eq_true.mp hgn q hq
      simp only [Bool.and_eq_true] at g
      obtain ⟨⟨a1, a2⟩, a3⟩ := g
      have a1 := Nat.le_of_ble_eq_true a1
      have a2 : q.1 < 336 := Nat.le_of_ble_eq_true a2
      refine sm2 (q.1 - 16) (by omega) ?_
      rw [show q.1 - 16 + 16 = q.1 by omega]
      exact Option.isNone_iff_eq_none.mp a3
    · unfold gq_ot at hn
      rw [Bool.and_eq_true] at hn
      refine (sm2 q hq (Option.isNone_iff_eq_none.mp hn.1)).trans (hgh2 q (fun z hz => ?_))
      have g := List.all_eq_true.mp hn.2 z hz
      rw [Bool.not_eq_true'] at g
      exact Nat.ne_of_beq_eq_false g
  unfold gq_cl at hcl
  simp only [Bool.and_eq_true] at hcl
  obtain ⟨⟨hmj, hpl⟩, hcl⟩ := hcl
  have hmj : mj < 1000 := Nat.le_of_ble_eq_true hmj
  unfold lh_plain at hpl
  simp only [Bool.and_eq_true] at hpl
  obtain ⟨mok, -⟩ := ls_known hpl.1
  cases kd with
  | true =>
    have hcl : (gq_sk pc mj S bb [] && (ct_mt mj).2.2.2.2.1.isSome) = true := hcl
    rw [Bool.and_eq_true] at hcl
    obtain ⟨idx, b0, ec, hv⟩ := gq_sk_ok hcl.1
    obtain ⟨d1, -, -, -, d5⟩ := ck_286.tab pc _ _ _ _ ec
    have hwc : (3 : Nat) = 3 ∧ b0 = (ct_mt mj).2.2.2.2.2 ∧ Cond.static (ct_mt mj).1 ∈ ft_W ∧ Cond.methodLink "LightsMarketLaw" idx (ct_mt mj).1 ∈ ft_W := by
      obtain ⟨y1, y2, y3, y4⟩ := d5 hmj
      refine ⟨rfl, y2, y3, ?_⟩
      rcases y4 with y4 | ⟨y4, -⟩
      · exact y4
      · have := hcl.2
        rw [y4] at this
        cases this
    exact hs_call0 (G := (Y.1, Y.2.1, cs, sl)) (mj := mj) (y := ct_mt mj) (rm := lt_rm n mj) (pc := pc) F good nk hwc mok hn d1 hv hR hroom met fin
  | false =>
    have hcl : gq_sv pc mj Y.2.1 S bb [] = true := hcl
    obtain ⟨idx, b0, ec, hv⟩ := gq_sv_ok hcl
    obtain ⟨d1, -, -, -, d5⟩ := ck_286.tab pc _ _ _ _ ec
    exact hg_callv0 (G := (Y.1, Y.2.1, cs, sl)) (mj := mj) (y := ct_mt mj) (rm := lt_rm n mj) (pc := pc) F good nk (d5 hmj) mok hn d1 hv hR hroom met fin
end GQC
