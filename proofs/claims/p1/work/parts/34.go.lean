/-! THE LAW'S RUN OUT OF AN EVALUATION (its head is the skeleton's) -/
def R_law : String := "LightsMarketLaw"
def lw_P (b : Addr) (xs : List Int32) (args : Array Value) (s : State) : Prop := args = #[.ref b] ∧ s.IntsAt b xs ∧ xs.length ≤ 10 ∧ (Jvm.Cond.and given_1 narrow_1).before args s = true
def lw_Q (_ : Array Value) (s : State) (o : Outcome) (t : State) : Prop := o = .returned (some (.int 1)) ∧ Framed s o t [] 600002 7302232
def lw_Z (below : List Frame) (a : Array Value) (s : State) : State → Prop := fun t => ∃ o, t.status = .running ∧ Ended t below o ∧ lw_Q a s o t
/-- the law's own end, with 1 on the stack, nothing written that was there before, its room as the claim has it -/
theorem lw_ret {p : Program} {l : Launch} {e : Env} {s : State} {m : MethodId} {below : List Frame} {meth : Method} {c : Code} {b : Nat} (hx : p.tables.exec = Jvm.exec) (hb : c.code = code) (hr : meth.sig.returnType = ret) (hlocks : meth.locks = false) {pc : Nat} {H : Heap} {ls : Array Slot} (hdg : decode code pc = .ok (.ireturn, 1)) : W p l e room_1 s m #[Value.ref b] below meth c H [] 600002 7302232 (lw_Z below #[Value.ref b] s) (F0 m pc ls [.int 1]) := by
  intro T hT X
  obtain ⟨fs, hret, hrun, hended, hW, hframe⟩ := X.leave (v := some (.int 1)) (hlocks := hlocks) (fun h => by rw [hr] at h; cases h)
  have hmeth' : T.vm.method? m = some meth := X.method'
  refine ⟨T.setFrames fs, ?_, .returned (some (.int 1)), hrun, hended, rfl, ⟨_, rfl⟩, hW, hframe⟩
  jvm_step X.here [X.here.top, hx, hb, hdg, hmeth', hr, ret, narrow_b1]
  (try refine ⟨rfl, ?_⟩); (try refine ⟨rfl, ?_⟩)
  first | (intro acts; rw [hret _ acts rfl rfl rfl]) | rw [hret _ _ rfl rfl rfl]
  exact Steps.refl _
/-- what holds at the law's entry: the machine, the code, the tables' words (any of lw_tbl by 'hts w (by decide +kernel)'), the script of L ints xs at the cell b, what the Statement gives of the start (any of its parts by flat_of_before) -/
def lw_At (p : Program) (s : State) (m : MethodId) (meth : Method) (c : Code) (b L : Nat) (xs : Nat → Int32) : Prop :=
  p.tables.exec = Jvm.exec ∧ c.code = code ∧ meth.sig.returnType = ret ∧ c.maxLocals = 7 ∧ s.vm.findClass R_law = some m.cls ∧ (∀ w ∈ lw_tbl, w.before #[Value.ref b] s = true) ∧ va_X b L xs s s.heap ∧ b < s.heap.size ∧ meth.locks = false ∧ (Jvm.Cond.and given_1 narrow_1).before #[Value.ref b] s = true

theorem st_one_ok : ∀ {l : List (ai_R × ai_G)}, st_one l = true → ∀ f ∈ l, f.1 = .inr (some (.inl (0, 1)))
  | [], _, f, hf => by cases hf
  | (r, g) :: l, h, f, hf => by
    unfold st_one at h
    split at h
    · rcases List.mem_cons.mp hf with rfl | hf
      · rfl
      · exact st_one_ok h f hf
    · cases h
theorem st_yes_ok {q : ai_Q} (h : st_yes q = true) : ∃ l, q = some l ∧ ∀ f ∈ l, f.1 = .inr (some (.inl (0, 1))) := by
  unfold st_yes at h
  split at h
  · exact ⟨_, rfl, st_one_ok h⟩
  · cases h
theorem st_cell {L : Nat} {ov : List (ai_X × ai_X)} {q : Nat} (hq : q < 16) {c : ai_C} (h : ai_cell (st_H L ov) q = some c) : q = 0 ∧ c = .inr (.inl (0, L, ai_lo32, ai_hi32, ov)) := by
  match q, hq, h with
  | 0, _, h => cases h; exact ⟨rfl, rfl⟩
  | 1, _, h => cases h
  | 2, _, h => cases h
  | 3, _, h => cases h
  | 4, _, h => cases h
  | 5, _, h => cases h
  | 6, _, h => cases h
  | 7, _, h => cases h
  | 8, _, h => cases h
  | 9, _, h => cases h
  | 10, _, h => cases h
  | 11, _, h => cases h
  | 12, _, h => cases h
  | 13, _, h => cases h
  | 14, _, h => cases h
  | 15, _, h => cases h
  | n + 16, hq, _ => omega
theorem ct_hprog {mk : Nat → Nat → Option ai_AA} (hmk : ∀ mi, mk mi 99999 = none) : ∀ mi nl code hand bud ann, (ct_meth mk mi).map fr_unM = some (nl, code, hand, bud, ann) → ai_Pm ft_W ft_N ct_strs ct_mt ct_bud mi nl code hand bud ann := by
  intro mi nl code hand bud ann h
  have g := ct_all mi
  have em : ct_mt mi = ct_mtL (ai_tget 9 ct_prog mi) := rfl
  have eb : ct_bud mi = ct_budL (ai_tget 9 ct_prog mi) := rfl
  have eh : ct_meth mk mi = ct_with (mk mi) (ai_tget 9 ct_prog mi) := rfl
  rw [eh] at h
  unfold ai_Pm
  rw [em, eb]
  cases e : ai_tget 9 ct_prog mi with
  | none => rw [e] at h; cases h
  | some q =>
    obtain ⟨code0, hand0, b0, y⟩ := q
    rw [e] at h g
    have h : some (y.2.2.1, (fun pc => (code0 pc).map fr_un), hand0, b0, mk mi) = some (nl, code, hand, bud, ann) := h
    cases h
    obtain ⟨g1, g2, g3, g4⟩ := g
    refine ⟨rfl, rfl, g1, g3, fun pc z => ?_⟩
    have g5 := g4 pc z
    cases eh : hand pc z with
    | none => rw [eh] at g5; exact g5
    | some kp =>
      obtain ⟨k, pcn⟩ := kp
      rw [eh] at g5
      rcases g5 with ⟨e1, e2⟩ | g5
      · refine Or.inl ⟨?_, ?_⟩
        · show (code0 pcn).map fr_un = none
          rw [e1, e2]
          rfl
        · rw [e1]
          exact hmk mi
      · exact Or.inr g5
theorem ct_hnx {mk : Nat → Nat → Option ai_AA} : ∀ mi q, ct_meth mk mi = some q → fr_nx q.2.1 := by
  intro mi q h
  have g := ct_all mi
  have eh : ct_meth mk mi = ct_with (mk mi) (ai_tget 9 ct_prog mi) := rfl
  rw [eh] at h
  cases e : ai_tget 9 ct_prog mi with
  | none => rw [e] at h; cases h
  | some c =>
    obtain ⟨code0, hand0, b0, y⟩ := c
    rw [e] at h g
    have h : some (y.2.2.1, code0, hand0, b0, mk mi) = some q := h
    cases h
    exact g.2.1
theorem st_frame {s t : State} {o : Outcome} {L : List Loc} {k n : Nat} (h : FrameEnd s o t L k n) (hL : ∀ q ∈ L, s.heap.size ≤ q.base) : Framed s o t [] k n := by
  obtain ⟨h1, h2, a1, a2, a3, a4, a5, a6⟩ := h
  refine ⟨h1, h2, a1, a2, a3, a4, a5, fun a c hc => ?_⟩
  obtain ⟨c', b1, b2, b3, b4⟩ := a6 a c hc
  refine ⟨c', b1, b2, b3, fun i _ => b4 i (fun hm => ?_)⟩
  have := hL _ hm
  have hlt : a < s.heap.size := (Array.getElem?_eq_some_iff.mp hc).1
  exact absurd hlt (Nat.not_lt.mpr this)
theorem st_St {s : State} {b L : Nat} {xs : Nat → Int32} (hts : ∀ w ∈ lw_tbl, w.before #[Value.ref b] s = true) (hX : va_X b L xs s s.heap) (hbl : b < s.heap.size) (hgv : (Jvm.Cond.and given_1 narrow_1).before #[Value.ref b] s = true) : ∃ (D : va_G) (tyc : Nat → ClassId) (f : Nat → Nat), ai_St D tyc (fun q => s.heap.size ≤ q) (f, [(0, b, L, xs)]) ct_strs ft_N s := by
  have hn := flat_of_before _ hgv
  have hA : ∀ a : Nat, a < s.heap.size → ¬ (fun q => s.heap.size ≤ q) a := fun a ha => Nat.not_le.mpr ha
  obtain ⟨D, tyc, hK, k1, k2, k3⟩ := st_K hts
  obtain ⟨f, t1, t2⟩ := st_texts (A := fun q => s.heap.size ≤ q) hts hgv hA
  refine ⟨D, tyc, f, hK, t1, t2, ⟨k1, k2⟩, k3, fun z hz => ?_, fun w hw => va_Nw.of (ai_nk_tab (List.mem_filter.mp hw).2) (hts w (List.mem_filter.mp hw).1), ?_, ?_, fun q hq => ?_⟩
  · rcases List.mem_cons.mp hz with rfl | hz
    · exact ⟨hX, hbl, Nat.not_le.mpr hbl⟩
    · cases hz
  · exact vx_Zqof (hts _ (List.mem_of_getElem? (i := 824) (by decide +kernel))) (hts _ (List.mem_of_getElem? (i := 139) (by decide +kernel))) (hn _ (by decide +kernel)) hA
  · exact vx_Zqof (hts _ (List.mem_of_getElem? (i := 826) (by decide +kernel))) (hts _ (List.mem_of_getElem? (i := 139) (by decide +kernel))) (hn _ (by decide +kernel)) hA
  · rcases List.mem_cons.mp hq with rfl | hq
    · exact va_Nc.of (hn _ (by decide +kernel))
    · cases hq
theorem st_flag {l : Launch} (h : l.flags = flags0) : l.stackTraces = false := by
  unfold Launch.stackTraces
  rw [h]
  decide +kernel
theorem st_no : (fr_code 8 ct_287 99999).map fr_un = none := by
  have h : fr_code 8 ct_287 99999 = none := by decide +kernel
  rw [h]
  rfl
set_option maxHeartbeats 4000000 in
/-- from the law's entry, out of an evaluation -/
theorem st_go {p : Program} {e : Env} {s : State} {m : MethodId} {below : List Frame} {meth : Method} {c : Code} (l : Launch) (hflags : l.flags = flags0) {b L : Nat} {xs : Nat → Int32} (C0 : lw_At p s m meth c b L xs) {mk : Nat → Nat → Option ai_AA} (hmk : ∀ mi, mk mi 99999 = none) {E : ai_E} {ov : List (ai_X × ai_X)} {r : Nat → Int} (hE : ai_gE r E) (hKK : ai_gK r E.1 ai_lo32 ai_hi32 ov L (fun j => (xs j).toInt))
    (hev : st_yes (st_law mk (E, st_H L ov, 0, 0)) = true) : W p l e room_1 s m #[Value.ref b] below meth c s.heap [] 0 0 (lw_Z below #[Value.ref b] s) (entryFrame m ([Value.ref b] : List Value).toArray 7) := by
  obtain ⟨hx, hb, hr, hml, hown, hts, hX, hbl, hlocks, hgv⟩ := id C0
  have hA : ∀ q : Nat, s.heap.size ≤ q → (fun q : Nat => s.heap.size ≤ q) q := fun _ h => h
  obtain ⟨D, tyc, f, hSt⟩ := st_St hts hX hbl hgv
  have hts' : ∀ w ∈ ft_W, w.before #[Value.ref b] s = true := fun w hw => hts w (List.mem_filter.mp hw).1
  obtain ⟨outs, e1, hone⟩ := st_yes_ok hev
  have F : ai_Fr p room_1 s m #[Value.ref b] meth c D tyc (fun q => s.heap.size ≤ q) (f, [(0, b, L, xs)]) 7 code "LightsMarketLaw" ft_W ct_strs ft_N (600002, 7302232) ct_dflt ct_kind := ⟨hx, hb, hml, hts', hown, hSt, hA, ⟨rfl, rfl⟩, sc_all, ⟨by decide, by decide⟩, hlocks⟩
  have ec : fr_meth (ct_meth mk) ct_bud ct_dflt ct_kind 1000000 40 = ai_meth (fun m => (ct_meth mk m).map fr_unM) ct_bud ct_dflt ct_kind 1000000 40 := by
    funext x1 x2 x3
    exact fr_meth_eq ct_hnx 40 x1 x2 x3
  have e2 : fr_run (fr_code 8 ct_287) (fun _ _ => some (0, 99999)) (600002, 7302232) ct_bud ct_dflt ct_kind (fr_meth (ct_meth mk) ct_bud ct_dflt ct_kind 1000000 40) (mk 287) 1000000 [] false 0 [.inr (.inr (some (some 0))), .inr (.inr none), .inr (.inr none), .inr (.inr none), .inr (.inr none), .inr (.inr none), .inr (.inr none)] [] (E, st_H L ov, 0, 0) = some outs := e1
  rw [ec, fr_run_eq ck_287.nx] at e2
  have adL : ai_gL r (fun q => match q with | 0 => b | q + 1 => f q) E.1 16 7 [.inr (.inr (some (some 0))), .inr (.inr none), .inr (.inr none), .inr (.inr none), .inr (.inr none), .inr (.inr none), .inr (.inr none)] ((lg_sl [Value.ref b] ++ List.replicate (7 - (lg_sl [Value.ref b]).length) Slot.unset).toArray) :=
    ai_entry_ok (aa := [.inr (.inr (some (some 0)))]) rfl ⟨⟨by omega, rfl⟩, trivial⟩
  have hRel : ai_Rel D tyc (fun q => s.heap.size ≤ q) s (f, [(0, b, L, xs)]) [] 7 r (fun q => match q with | 0 => b | q + 1 => f q) [.inr (.inr (some (some 0))), .inr (.inr none), .inr (.inr none), .inr (.inr none), .inr (.inr none), .inr (.inr none), .inr (.inr none)] [] (E, st_H L ov, 0, 0) s.heap [] ((lg_sl [Value.ref b] ++ List.replicate (7 - (lg_sl [Value.ref b]).length) Slot.unset).toArray) [] := by
    refine ⟨[], (fun k q h => by cases h), ⟨(fun i j p q h => by cases h), (fun k q h => by cases h)⟩, va_S.rf, hE, ⟨⟨Nat.le_refl _, by show (16 : Nat) ≤ 512; omega, rfl⟩, fun k q h => (by cases h), fun k hk => absurd hk (by show ¬ (k + 16 < 16); omega), fun k hk => absurd hk (by show ¬ (k + 16 < 16); omega)⟩, fun q hq c hc => ?_, fun i _ => rfl, adL, trivial⟩
    obtain ⟨rfl, rfl⟩ := st_cell hq hc
    exact ⟨_, List.mem_cons_self, ai_lo32, ai_hi32, ov, rfl, rfl, hKK⟩
  have R0 := ai_run_ok (e := e) (below := below) (R := room_1) (ws0 := []) (r0 := r) (ad0 := fun q => match q with | 0 => b | q + 1 => f q) (N0 := E.1) (n0 := 16) (mc := 600002) (ms := 7302232) (outs := outs) (cbud := ct_bud) (mt := ct_mt) (rm := ai_rmd ct_bud 40) (callee := ai_meth (fun m => (ct_meth mk m).map fr_unM) ct_bud ct_dflt ct_kind 1000000 40) (ann := mk 287) (code := fun q => (fr_code 8 ct_287 q).map fr_un) (hand := fun _ _ => some (0, 99999)) (tb := [(0, 0, 0, 0)]) (ret := some .boolean) (ini := false) F (st_flag hflags) hr (fun q => by cases q)
    (fun w hw => (List.mem_filter.mp hw).2) (fun w hw => (List.mem_filter.mp hw).2) (fun q => by cases q) ck_287.tab
    (fun mi aa G o ho => by
      obtain ⟨⟨nl', code', hand', bud', ann'⟩, hq⟩ := ai_meth_some ho
      exact (ct_hprog hmk _ _ _ _ _ _ hq).2.2.1)
    (fun pc z => Or.inl ⟨st_no, hmk 287⟩) (fun mi => ⟨by show 40 + 8 + 1 ≤ 2048; omega, by show 64 * 40 + 400 + 64 ≤ 84000; omega, rfl, rfl⟩)
    (fun mi aa G o ho => ai_meth_ok (st_flag hflags) (fun w hw => (List.mem_filter.mp hw).2) (fun w hw => (List.mem_filter.mp hw).2) sc_all (ct_hprog hmk) 40 mi aa G o ho) ⟨Nat.le_refl _, Nat.le_refl _⟩
    1000000 [] false 0 _ [] (E, st_H L ov, 0, 0) outs r _ s.heap [] _ [] e2 (fun f hf => hf) hRel ai_ext.rfl' ai_ext.rfl' (Nat.le_refl _) (Nat.le_refl _) (fun P hP => by cases hP)
  rw [lg_entry_eq]
  intro T hT X
  obtain ⟨t, a1, o, b1, b2, b3⟩ := R0 T hT X
  refine ⟨t, a1, o, b1, b2, ?_⟩
  rcases b3 with ⟨⟨g, hg, x, v, f1, f2, r', ad', -, -, -, -, hWd, -, hv⟩, Lx, hF, hL⟩ | ⟨q, -, E', ce, Lx, ⟨g, hg, z, hz, -⟩, -⟩
  · rw [hone g hg] at f1
    cases f1
    obtain ⟨w, rfl, -, i, rfl, hi⟩ := hv
    obtain ⟨ws, -, -, hE', -⟩ := hWd
    have hi : i.toInt = r' 0 + 1 := hi
    rw [hE'.1] at hi
    have hi1 : i = 1 := Int32.toInt_inj.mp (hi.trans (by decide))
    subst hi1
    exact ⟨f2, st_frame hF hL⟩
  · rw [hone g hg] at hz
    cases hz
