/-! THE LAW: from its entry to its head (what stands first is the skeleton's) -/
def R_law : String := "LightsMarketLaw"
def lw_P (b : Addr) (xs : List Int32) (args : Array Value) (s : State) : Prop := args = #[.ref b] ∧ s.IntsAt b xs ∧ xs.length ≤ 5120 ∧ (Jvm.Cond.and given_1 narrow_1).before args s = true
def lw_Q (_ : Array Value) (s : State) (o : Outcome) (t : State) : Prop := o = .returned (some (.int 1)) ∧ Framed s o t [] 601024 7293034
def lw_Z (below : List Frame) (a : Array Value) (s : State) : State → Prop := fun t => ∃ o, t.status = .running ∧ Ended t below o ∧ lw_Q a s o t
/-- the law's own end, with 1 on the stack, nothing written that was there before, its room as the claim has it -/
theorem lw_ret {p : Program} {l : Launch} {e : Env} {s : State} {m : MethodId} {below : List Frame} {meth : Method} {c : Code} {b : Nat} (hx : p.tables.exec = Jvm.exec) (hb : c.code = code) (hr : meth.sig.returnType = ret) (hlocks : meth.locks = false) {pc : Nat} {H : Heap} {ls : Array Slot} (hdg : decode code pc = .ok (.ireturn, 1)) : W p l e room_1 s m #[Value.ref b] below meth c H [] 601024 7293034 (lw_Z below #[Value.ref b] s) (F0 m pc ls [.int 1]) := by
  intro T hT X
  obtain ⟨fs, hret, hrun, hended, hW, hframe⟩ := X.leave (v := some (.int 1)) (hlocks := hlocks) (fun h => by rw [hr] at h; cases h)
  have hmeth' : T.vm.method? m = some meth := X.method'
  refine ⟨T.setFrames fs, ?_, .returned (some (.int 1)), hrun, hended, rfl, ⟨_, rfl⟩, hW, hframe⟩
  jvm_step X.here [X.here.top, hx, hb, hdg, hmeth', hr, ret, narrow_b1]
  (try refine ⟨rfl, ?_⟩); (try refine ⟨rfl, ?_⟩)
  first | (intro acts; rw [hret _ acts rfl rfl rfl]) | rw [hret _ _ rfl rfl rfl]
  exact Steps.refl _
/-- what holds at the law's entry: the machine, the code, the tables' words (any of lw_tbl by 'hts w (by decide +kernel)'), the script of L ints xs at the cell b, what the Statement gives of the start (any of its parts by flat_of_before) -/
def lw_At (p : Program) (s : State) (m : MethodId) (meth : Method) (c : Code) (b L : Nat) (xs : Nat → Int32) : Prop :=
  p.tables.exec = Jvm.exec ∧ c.code = code ∧ meth.sig.returnType = ret ∧ c.maxLocals = 7 ∧ s.vm.findClass R_law = some m.cls ∧ (∀ w ∈ lw_tbl, w.before #[Value.ref b] s = true) ∧ va_X b L xs s s.heap ∧ b < s.heap.size ∧ meth.locks = false ∧ (Jvm.Cond.and given_1 narrow_1).before #[Value.ref b] s = true
noncomputable def sy_L0 : List ai_V := [.inr (.inr (some (some 0))), .inr (.inr none), .inr (.inr none), .inr (.inr none), .inr (.inr none), .inr (.inr none), .inr (.inr none)]
noncomputable def sy_H0 : ai_H := (16, ai_tnew none 9)
noncomputable def sy_G0 : ai_G := ((1, [], []), sy_H0, 0, 0)
noncomputable def sy_run : Option (List ai_F) := sg_run lx_code (fun _ _ => none) (601024, 7293034) ct_bud ct_dflt ct_kind (fr_meth (ct_meth (fun _ _ => none)) ct_bud ct_dflt ct_kind 1000000 40) (fun q => Nat.beq q 23) 10000 false 0 sy_L0 [] sy_G0
/-- noughts, each told by itself -/
noncomputable def sy_on (n : Nat) : List (ai_X × ai_X) := (List.range n).map (fun j => ((0, .ofNat j), (0, .ofNat 0)))
noncomputable def sy_x (q m : Nat) (G : ai_G) : Option ai_G := match ai_cell G.2.1 q with
  | some (.inr (.inl (ty, n, lo, hi, []))) => match Nat.beq n m && (ai_eq lo 0 && ai_eq hi 0) with
    | true => some (G.1, (G.2.1.1, ai_tset 9 G.2.1.2 q (some (.inr (.inl (ty, m, 0, 0, sy_on m))))), G.2.2)
    | false => none
  | _ => none
noncomputable def sy_xl : List (Nat × Nat) → ai_G → Option ai_G
  | [], G => some G
  | (q, n) :: l, G => match sy_x q n G with
    | some G1 => sy_xl l G1
    | none => none
noncomputable def sy_told : List (Nat × Nat) := [(271, 4), (275, 4), (82, 12), (83, 12), (281, 12), (282, 12), (70, 12), (71, 12), (72, 12), (73, 12), (74, 12), (75, 12), (76, 12), (77, 12), (78, 12), (79, 12), (80, 12), (81, 12), (283, 144), (19, 4), (20, 4), (21, 4), (22, 4), (24, 5), (25, 5), (26, 5), (27, 5), (45, 4), (51, 4), (57, 4), (63, 4), (266, 5), (267, 5), (268, 5), (269, 5), (270, 4), (272, 4), (273, 4), (274, 4), (276, 4), (277, 4), (278, 4), (279, 16), (280, 16), (327, 4), (328, 4), (293, 4)]
theorem sy_toldk : ∀ q ∈ sy_told, 16 ≤ q.1 ∧ q.1 < 512 := by
  intro q hq
  have h : sy_told.all (fun q => Nat.ble 16 q.1 && Nat.blt q.1 512) = true := by decide +kernel
  have h := List.all_eq_true.mp h q hq
  rw [Bool.and_eq_true] at h
  exact ⟨Nat.le_of_ble_eq_true h.1, Nat.le_of_ble_eq_true h.2⟩
noncomputable def sy_z (q n : Nat) (G : ai_G) : Bool := match ai_cell G.2.1 q with
  | some (.inr (.inl (ty, m, lo, hi, []))) => Nat.beq ty 0 && (Nat.beq m n && (ai_eq lo 0 && ai_eq hi 0))
  | _ => false
noncomputable def sy_gq : List (Nat × Nat) := [(85, 200), (86, 200), (285, 200), (286, 5), (287, 40), (288, 40), (289, 40), (290, 2000), (47, 200), (53, 200), (59, 200), (65, 200)]
noncomputable def sy_drl : List (Nat × Nat) → ai_G → ai_G
  | [], G => G
  | q :: l, G => sy_drl l (hg_drop G q.1)
noncomputable def sy_zl : List (Nat × Nat) → ai_G → Bool
  | [], _ => true
  | q :: l, G => ((Nat.ble 16 q.1 && Nat.blt q.1 336) && sy_z q.1 q.2 G) && sy_zl l (hg_drop G q.1)
noncomputable def sy_dr (G : ai_G) : ai_G := sy_drl sy_gq G
noncomputable def sy_zs (G : ai_G) : Bool := sy_zl sy_gq G
noncomputable def sy_oo : List (Nat × ai_X) := (1, (0, .ofNat 0)) :: (73, (0, .ofNat 0)) :: lx_ji.map (fun q => (q.1, (0, q.2)))
noncomputable def sy_wi (f : ai_F) : Bool := match sy_xl sy_told (sy_dr f.2.2.2) with
  | some G2 => lx_sub 0 0 lx_L [] f.2.1 f.2.2.1 G2 (lx_n0 sy_oo)
  | none => false
noncomputable def sy_fin (f : ai_F) : Bool := (Nat.beq f.1 23 && (Nat.beq f.2.2.2.2.1.1 336 && (Nat.ble f.2.2.2.2.2.1 320 && Nat.ble f.2.2.2.2.2.2 24214))) && (sy_zs f.2.2.2 && sy_wi f)
noncomputable def sy_all : Bool := match sy_run with
  | some fs => fs.all sy_fin
  | none => false
theorem sy_ev : sy_all = true := by decide +kernel
theorem sy_no0 : (List.range 16).all (fun q => (ai_cell sy_H0 q).isNone) = true := by decide +kernel
section STG
variable {s : State} {D : va_G} {tyc : Nat → ClassId} {A : Nat → Prop} {sa : ai_B} {ws : va_W} {nL : Nat} {r : Nat → Int} {ad : Nat → Nat} {L S S' : List ai_V} {G : ai_G} {H : Heap} {locs : List Loc} {ls : Array Slot} {st : List Value}
theorem sy_gK {r : Nat → Int} {N : Nat} {g : Nat → Int} {m : Nat} (h0 : r 0 = 0) (hN : 0 < N) (h : ai_gK r N 0 0 [] m g) (n : Nat) : ai_gK r N 0 0 (sy_on n) m g := by
  refine ⟨fun q hq => ?_, fun j hj => ?_⟩
  · obtain ⟨i, -, rfl⟩ := List.mem_map.mp hq
    exact ⟨hN, hN⟩
  · have hv : (0 : Int) ≤ g j ∧ g j ≤ 0 := h.2 j hj
    have e : g j = ai_vx r (0, .ofNat 0) := by
      show g j = r 0 + 0
      omega
    unfold sy_on
    generalize List.range n = l
    induction l with
    | nil => exact hv
    | cons a l ih => exact ⟨fun _ => e, fun _ => ih⟩
theorem sy_x_ok {q m : Nat} {G G' : ai_G} (hq : 16 ≤ q) (hq2 : q < 512) (h : sy_x q m G = some G') (hR : ai_Rel D tyc A s sa ws nL r ad L S G H locs ls st) : ai_Rel D tyc A s sa ws nL r ad L S G' H locs ls st := by
  unfold sy_x at h
  split at h
  · rename_i ty n lo hi hc
    split at h
    · rename_i hn
      simp only [Bool.and_eq_true] at hn
      have hn1 := Nat.eq_of_beq_eq_true hn.1
      have hn2 := ai_eq_iff.mp hn.2.1
      have hn3 := ai_eq_iff.mp hn.2.2
      subst hn1 hn2 hn3
      cases h
      have hE := hR.env
      refine lx_cell hR hq hq2 hc (fun e he => ?_)
      rcases he with ⟨h1, f, h2, h3⟩ | ⟨h1, f, h2, h3⟩
      · exact Or.inl ⟨h1, f, h2, sy_gK hE.1 hE.2.1 h3 _⟩
      · exact Or.inr ⟨h1, f, h2, sy_gK hE.1 hE.2.1 h3 _⟩
    · cases h
  · cases h
theorem sy_xl_ok : ∀ {l : List (Nat × Nat)} {G G' : ai_G}, (∀ q ∈ l, 16 ≤ q.1 ∧ q.1 < 512) → sy_xl l G = some G' → ai_Rel D tyc A s sa ws nL r ad L S G H locs ls st → ai_Rel D tyc A s sa ws nL r ad L S G' H locs ls st
  | [], G, G', _, h, hR => by
    unfold sy_xl at h
    cases h
    exact hR
  | (q, n) :: l, G, G', hl, h, hR => by
    unfold sy_xl at h
    split at h
    · rename_i G1 e1
      exact sy_xl_ok (fun z hz => hl z (List.mem_cons_of_mem _ hz)) h (sy_x_ok (hl _ List.mem_cons_self).1 (hl _ List.mem_cons_self).2 e1 hR)
    · cases h
theorem sy_z_ok {q n : Nat} {G : ai_G} (h : sy_z q n G = true) : ai_cell G.2.1 q = some (.inr (.inl (0, n, 0, 0, []))) := by
  unfold sy_z at h
  split at h
  · rename_i ty m lo hi e
    simp only [Bool.and_eq_true] at h
    obtain ⟨a1, a2, a3, a4⟩ := h
    rw [e, Nat.eq_of_beq_eq_true a1, Nat.eq_of_beq_eq_true a2, ai_eq_iff.mp a3, ai_eq_iff.mp a4]
  · cases h
theorem sy_dn {G : ai_G} {q : Nat} (hq : q < 512) : ai_cell (hg_drop G q).2.1 q = none := by
  show ai_cell (G.2.1.1, ai_tset 9 G.2.1.2 q none) q = none
  rw [hg_cell hq hq, if_pos rfl]
theorem sy_dk {G : ai_G} {q k : Nat} (hq : q < 512) (hk : k < 512) (h : ai_cell G.2.1 k = none) : ai_cell (hg_drop G q).2.1 k = none := by
  show ai_cell (G.2.1.1, ai_tset 9 G.2.1.2 q none) k = none
  rw [hg_cell hq hk]
  split
  · rfl
  · exact h
theorem sy_in_ok {v j : Nat} {o : List (Nat × ai_X)} (h : lx_sub v j lx_L S' L S G o = true) (hR : ai_Rel D tyc A s sa ws nL r ad L S G H locs ls st) : ∃ r2, ai_Rel D tyc A s sa ws nL r2 ad lx_L S' (lx_G v j) H locs ls st ∧ ∀ q ∈ o, r2 q.1 = ai_vx r q.2 := by
  rw [lx_sub_eq] at h
  have hE := hR.env
  have hE0 : ai_gE r (1, [], []) := ⟨hE.1, Nat.succ_pos _, fun t ht => hE.2.2.1 t (Nat.lt_of_lt_of_le ht hE.2.1), fun q hq => (by cases hq), fun q hq => (by cases hq)⟩
  obtain ⟨r2, a1, a2, a3⟩ := hw_okY hE0 rfl ai_ext.rfl' hE.2.1 hR h
  rw [← (lx_El_eq v j).1] at a2
  exact ⟨r2, a2, a3⟩
theorem sy_cll : ∀ {l : List (Nat × Nat)} {G : ai_G} {ws : va_W}, G.2.1.1 = 336 → sy_zl l G = true → ai_Rel D tyc A s sa ws nL r ad L S G H locs ls st → ∃ ws', ai_Rel D tyc A s sa ws' nL r ad L S (sy_drl l G) H locs ls st ∧ (∀ k, k + 16 < 336 → ai_cell G.2.1 (k + 16) = none → ws'[k]? = ws[k]?) ∧ ∀ q ∈ l, ∃ f, hg_ia tyc ws' q.1 q.2 f ∧ ∀ j, j < q.2 → (f j).toInt = 0
  | [], G, ws, _, _, hR => ⟨ws, hR, fun _ _ _ => rfl, fun q hq => by cases hq⟩
  | q :: l, G, ws, hn, hz, hR => by
    unfold sy_zl at hz
    simp only [Bool.and_eq_true] at hz
    obtain ⟨⟨⟨b1, b2⟩, z1⟩, z2⟩ := hz
    have b1 := Nat.le_of_ble_eq_true b1
    have b2 : q.1 < 336 := Nat.le_of_ble_eq_true b2
    obtain ⟨ws1, f1, a1, c1, n1, -, R1⟩ := hg_in hR b1 (by rw [hn]; exact b2) (sy_z_ok z1)
    obtain ⟨ws', R', n', k'⟩ := sy_cll (l := l) (G := hg_drop G q.1) hn z2 R1
    have dn : ai_cell (hg_drop G q.1).2.1 q.1 = none := sy_dn (by omega)
    refine ⟨ws', R', fun k hk hc => ?_, fun p hp => ?_⟩
    · exact (n' k hk (sy_dk (by omega) (by omega) hc)).trans (n1 k (by rw [hn]; exact hk) hc)
    · rcases List.mem_cons.mp hp with rfl | hp
      · refine ⟨f1, ?_, fun j hj => ?_⟩
        · obtain ⟨x, hx⟩ := a1
          exact ⟨x, (n' (p.1 - 16) (by omega) (by rw [show p.1 - 16 + 16 = p.1 by omega]; exact dn)).trans hx⟩
        · have := c1 j hj
          omega
      · exact k' p hp
theorem sy_cl (hn : G.2.1.1 = 336) (hz : sy_zs G = true) (hR : ai_Rel D tyc A s sa ws nL r ad L S G H locs ls st) : ∃ ws4, cl_V0 tyc ws4 ∧ ai_Rel D tyc A s sa ws4 nL r ad L S (sy_dr G) H locs ls st := by
  obtain ⟨ws4, R4, -, k4⟩ := sy_cll hn hz hR
  refine ⟨ws4, fun z hz => ?_, R4⟩
  have w : gw_l.all (fun z => sy_gq.elem (z.1, z.2.1) && Nat.beq z.2.2 0) = true := by decide
  have g := List.all_eq_true.mp w z hz
  rw [Bool.and_eq_true] at g
  obtain ⟨f, f1, f2⟩ := k4 _ (List.mem_of_elem_eq_true g.1)
  rw [Nat.eq_of_beq_eq_true g.2]
  exact ⟨f, f1, f2⟩
end STG
set_option maxHeartbeats 4000000 in
theorem whole_start {p : Program} {e : Env} {s : State} {m : MethodId} {below : List Frame} {meth : Method} {c : Code} (l : Launch) (hflags : l.flags = flags0) {b L : Nat} {xs : Nat → Int32} (hL : L ≤ 5120) (C0 : lw_At p s m meth c b L xs) : W p l e room_1 s m #[Value.ref b] below meth c s.heap [] 0 0 (lw_Z below #[Value.ref b] s) (entryFrame m ([Value.ref b] : List Value).toArray 7) := by
  obtain ⟨hx, hb, hr, hml, hown, hts, hX, hbl, hlocks, hgv⟩ := id C0
  have hA : ∀ q : Nat, s.heap.size ≤ q → (fun q : Nat => s.heap.size ≤ q) q := fun _ h => h
  obtain ⟨D, tyc, f, hSt⟩ := st_St hts hX hbl hgv
  have hts' : ∀ w ∈ ft_W, w.before #[Value.ref b] s = true := fun w hw => hts w (List.mem_filter.mp hw).1
  have F : ai_Fr p room_1 s m #[Value.ref b] meth c D tyc (fun q => s.heap.size ≤ q) (f, [(0, b, L, xs)]) 7 code "LightsMarketLaw" ft_W ct_strs ft_N (601024, 7293034) ct_dflt ct_kind := ⟨hx, hb, hml, hts', hown, hSt, hA, ⟨rfl, rfl⟩, sc_all, ⟨by decide, by decide⟩, hlocks⟩
  have ec : fr_meth (ct_meth (fun _ _ => none)) ct_bud ct_dflt ct_kind 1000000 40 = ai_meth (fun m => (ct_meth (fun _ _ => none) m).map fr_unM) ct_bud ct_dflt ct_kind 1000000 40 := by
    funext x1 x2 x3
    exact fr_meth_eq ct_hnx 40 x1 x2 x3
  have hev := sy_ev
  unfold sy_all at hev
  split at hev
  · rename_i fs e2
    unfold sy_run at e2
    rw [ec] at e2
    have adL : ai_gL (fun _ => 0) (fun q => match q with | 0 => b | q + 1 => f q) 1 16 7 sy_L0 ((lg_sl [Value.ref b] ++ List.replicate (7 - (lg_sl [Value.ref b]).length) Slot.unset).toArray) :=
      ai_entry_ok (aa := [.inr (.inr (some (some 0)))]) rfl ⟨⟨by omega, rfl⟩, trivial⟩
    have hE : ai_gE (fun _ => 0) (1, [], []) := ⟨rfl, Nat.succ_pos _, fun t ht => ⟨by show ai_lo64 ≤ (0 : Int); unfold ai_lo64; omega, by show (0 : Int) ≤ ai_hi64; unfold ai_hi64; omega⟩, fun q hq => (by cases hq), fun q hq => (by cases hq)⟩
    have hRel : ai_Rel D tyc (fun q => s.heap.size ≤ q) s (f, [(0, b, L, xs)]) [] 7 (fun _ => 0) (fun q => match q with | 0 => b | q + 1 => f q) sy_L0 [] sy_G0 s.heap [] ((lg_sl [Value.ref b] ++ List.replicate (7 - (lg_sl [Value.ref b]).length) Slot.unset).toArray) [] := by
      refine ⟨[], (fun k q h => by cases h), ⟨(fun i j p q h => by cases h), (fun k q h => by cases h)⟩, va_S.rf, hE, ⟨⟨Nat.le_refl _, by show (16 : Nat) ≤ 512; omega, rfl⟩, fun k q h => (by cases h), fun k hk => absurd hk (by show ¬ (k + 16 < 16); omega), fun k hk => absurd hk (by show ¬ (k + 16 < 16); omega)⟩, fun q hq c hc => ?_, fun i _ => rfl, adL, trivial⟩
      have hn := List.all_eq_true.mp sy_no0 q (List.mem_range.mpr hq)
      have hc : ai_cell sy_H0 q = some c := hc
      rw [hc] at hn
      cases hn
    rw [lg_entry_eq]
    refine sg_ok (ini := false) (ret := some .boolean) (tb := [(0, 0, 0, 0)]) (mt := ct_mt) (rm := ai_rmd ct_bud 40) F (fun w hw => (List.mem_filter.mp hw).2) (fun w hw => (List.mem_filter.mp hw).2) (fun q => by cases q) ck_286.tab
      (fun mi aa G o ho => by
        obtain ⟨⟨nl', code', hand', bud', ann'⟩, hq⟩ := ai_meth_some ho
        exact (ct_hprog (fun _ => rfl) _ _ _ _ _ _ hq).2.2.1)
      (fun pc z k pcn q => by cases q) (fun mi => ⟨by show 40 + 8 + 1 ≤ 2048; omega, by show 64 * 40 + 400 + 64 ≤ 84000; omega, rfl, rfl⟩)
      (fun mi aa G o ho => ai_meth_ok (st_flag hflags) (fun w hw => (List.mem_filter.mp hw).2) (fun w hw => (List.mem_filter.mp hw).2) sc_all (ct_hprog (fun _ => rfl)) 40 mi aa G o ho) ai_Pw.nil
      10000 false 0 sy_L0 [] sy_G0 fs _ _ s.heap [] _ [] e2 hRel (fun f1 hf1 r' ad' x1 x2 x3 x4 H' locs' ls' st' hR' => ?_)
    have hf := List.all_eq_true.mp hev f1 hf1
    unfold sy_fin at hf
    simp only [Bool.and_eq_true] at hf
    obtain ⟨⟨h1, h2, h3, h4⟩, h5, h6⟩ := hf
    have h1 := Nat.eq_of_beq_eq_true h1
    have h2 := Nat.eq_of_beq_eq_true h2
    have h3 := Nat.le_of_ble_eq_true h3
    have h4 := Nat.le_of_ble_eq_true h4
    obtain ⟨ws4, hV, R4⟩ := sy_cl h2 h5 hR'
    unfold sy_wi at h6
    split at h6
    · rename_i G2 e4
      · have R6 := sy_xl_ok sy_toldk e4 R4
        obtain ⟨r2, R7, u0⟩ := sy_in_ok h6 R6
        have u := lx_n0_ok R6.env.1 R7.env.1 u0
        have h0 : r' 0 = 0 := hR'.env.1
        have u1 : r2 1 = 0 := by
          have : r2 1 = r' 0 + 0 := u (1, (0, .ofNat 0)) List.mem_cons_self
          omega
        have u2 : r2 73 = 0 := by
          have : r2 73 = r' 0 + 0 := u (73, (0, .ofNat 0)) (List.mem_cons_of_mem _ List.mem_cons_self)
          omega
        rw [h1]
        exact lx_loop (C0 := 320) (S0 := 24214) F (st_flag hflags) List.mem_cons_self hL (fun _ h => h) (by omega) (by omega) (fun H ls => lw_ret hx hb hr hlocks lx_dc.2.2)
          512 0 0 0 ws4 r2 ad' H' locs' ls' st' _ _ rfl (Nat.le_refl _) (by omega) (by omega) (by omega) (lx_V_0 hV (fun q hq => by
            have h : r2 q.1 = r' 0 + q.2 := u (q.1, (0, q.2)) (List.mem_cons_of_mem _ (List.mem_cons_of_mem _ (List.mem_map.mpr ⟨q, hq, rfl⟩)))
            omega)) R7 u1 u2 (x2 0 (by show 0 < 16; omega))
    · cases h6
  · cases hev
