/-! TEXTS: the words' letters, exactly; calls of length, charAt in by-hand methods -/
section STX
variable {l : Launch} {D : va_G} {tyc : Nat → ClassId} {A : Nat → Prop} {sa : ai_B} {tb : List (Nat × Nat × (Nat → Value))} {H : Heap} {i : Nat}
theorem sr_charX1 {a j : Nat} (hi : i < 10) (hj : j < ai_tl.getD i 0) : sr_Met l D tyc A sa 2 sr_yCh1 (sr_tb a i) H [.ref a, .int (Int32.ofNat j)] (fun v => v = some (.int (sr_chr ((ai_tb.getD i []).getD j 0)))) := by
  refine sr_met sr_m6 rfl (fun p e s m below meth c F hret hheap hX => ?_)
  have F0' := F
  obtain ⟨hx, hb, hml, hts, hown, hSt0, hA, hbud, hcls, hroom, hlocks⟩ := F
  obtain ⟨d0, d1, d2, d3, d4, d5, d6, d7, d8, d9, d10⟩ := sr_d6
  obtain ⟨j0, j1, j2⟩ := sr_lt i hi j hj
  have hT := hX _ (List.mem_cons_self)
  refine lv_iload_n hx hb d0 (i := 1) rfl rfl ?_
  refine lv_aload_n hx hb d1 (i := 0) rfl rfl ?_
  refine va_tlen hx hb hT va_S.rf rfl d2 ?_
  refine sr_callS (As := [.int (Int32.ofNat j), .int (Int32.ofNat (ai_tl.getD i 0))]) (rest := []) (y := sr_yChk) (kk := 1) (tb := []) F0' sr_m5 rfl (sr_at 11 rfl) (sr_at 21 rfl) ⟨Nat.le_refl _, Nat.le_refl _⟩ d3 rfl rfl (Nat.zero_le _) va_S.rf ⟨Nat.le_refl _, Nat.le_refl _⟩ (fun q hq => by cases hq) (by rw [hheap]; exact sr_chk j0 j1) (fun v locs1 hv hS1 => ?_)
  subst hv
  refine lv_aload_n hx hb d4 (i := 0) rfl rfl ?_
  refine lv_iload_n hx hb d5 (i := 1) rfl rfl ?_
  refine va_tb hx hb hT hS1 (i := Int32.ofNat j) (fun q => q.elim j0 (fun q => by rw [j2] at q; exact absurd hj (Nat.not_lt.mpr q))) rfl d6 ?_
  refine lv_sipush hx hb d7 (v := 255) rfl ?_
  dsimp only
  rw [j2]
  refine lv_iand hx hb d8 ?_
  refine lv_i2c hx hb d9 rfl ?_
  exact vx_ret (W.zret hx hb hret (sr_nar i hi j hj) (fun t ht _ => ⟨ht.trans hheap, _, rfl, rfl⟩) hS1.2.2 d10 hlocks)
theorem sr_charX {j : Nat} (hi : i < 10) (hj : j < ai_tl.getD i 0) : sr_Met l D tyc A sa 3 sr_yChar [] H [.ref (sa.1 i), .int (Int32.ofNat j)] (fun v => v = some (.int (sr_chr ((ai_tb.getD i []).getD j 0)))) := by
  refine sr_met sr_m7 rfl (fun p e s m below meth c F hret hheap hX => ?_)
  have F0' := F
  obtain ⟨hx, hb, hml, hts, hown, hSt0, hA, hbud, hcls, hroom, hlocks⟩ := F
  obtain ⟨⟨adV, hV⟩, -, -⟩ := hSt0.2.2.2.2.2.2.2.2.2.2
  obtain ⟨d0, d1, d2, d3, d4, d5, d6, d7⟩ := sr_d7
  refine lv_aload_n hx hb d0 (i := 0) rfl rfl ?_
  refine sr_callV (As := []) (y := sr_yLatin) (kk := 0) (tb := []) F0' sr_m2 rfl (sr_at 9 rfl) (sr_at 17 rfl) (sr_at 18 rfl) ⟨by show 9 ≤ 11; omega, by show 464 ≤ 592; omega⟩ d1 rfl rfl (Nat.zero_le _) va_S.rf ⟨Nat.le_refl _, Nat.le_refl _⟩ hX (vk_recv hV hi va_S.rf) (by rw [hheap]; exact sr_latin hi) (fun v locs1 hv hS1 => ?_)
  subst hv
  refine lv_if_eq hx hb d2 (tgt := 16) rfl (fun q => absurd q (by decide)) (fun _ => ?_)
  refine lv_aload_n hx hb d3 (i := 0) rfl rfl ?_
  refine vk_getf hx hb (hV.1 i hi).2.2.1 hS1 hown (hts _ (sr_at 2 rfl)) (fun x h => h) d4 ?_
  refine lv_iload_n hx hb d5 (i := 1) rfl rfl ?_
  refine sr_callS (As := [.ref (adV i), .int (Int32.ofNat j)]) (rest := []) (y := sr_yCh1) (kk := 2) (tb := sr_tb (adV i) i) F0' sr_m6 rfl (sr_at 10 rfl) (sr_at 22 rfl) ⟨Nat.le_refl _, Nat.le_refl _⟩ d6 rfl rfl (Nat.zero_le _) hS1 ⟨Nat.le_refl _, Nat.le_refl _⟩ (fun q hq => by
    rcases List.mem_cons.mp hq with rfl | hq
    · exact (hV.1 i hi).2.2.2
    · cases hq) (by rw [hheap]; exact sr_charX1 hi hj) (fun v locs2 hv hS2 => ?_)
  subst hv
  exact vx_ret (W.zret hx hb hret (sr_nar i hi j hj) (fun t ht _ => ⟨ht.trans hheap, _, rfl, rfl⟩) hS2.2.2 d7 hlocks)
end STX
/-- a word's letter -/
noncomputable def ps_ch (i j : Nat) : Int := (sr_chr ((ai_tb.getD i []).getD j 0)).toInt
section PTS
variable {p : Program} {l : Launch} {e : Env} {s : State} {m : MethodId} {args : Array Value} {below : List Frame} {meth : Method} {c : Code} {Q : State → Prop}
variable {D : va_G} {tyc : Nat → ClassId} {A : Nat → Prop} {sa : ai_B} {ws0 : va_W} {ad0 : Nat → Nat} {n mi : Nat} {Y : pt_Y}
variable {pc : Nat} {L S : List ai_V} {r : Nat → Int} {M : Nat → Nat → Int} {own : String} {idx : Nat}
theorem pt_slen_ok (hn : 4 ≤ n) (F : ls_Fr p (lt_rm (n + 1) mi) s m args meth c D tyc A sa mi) (ho : (ct_mt mi).1.cls = own) (hw1 : Cond.methodLink own idx sr_yLen.1 ∈ ft_W) {i : Nat} (hi : i < 10) (hdg : decode (ct_mt mi).2.1 pc = .ok (.invokevirtual idx, 3)) (hw : ai_words S ≤ 8)
    (hk : pt_W p l e s m args below meth c Q D tyc A sa ws0 ad0 n mi Y (pc + 3, 0, 0) L (.inl (0, .ofNat (rd_n i)) :: S) r M) :
    pt_W p l e s m args below meth c Q D tyc A sa ws0 ad0 n mi Y (pc, 0, 0) L (rd_ref (i + 1) :: S) r M := by
  intro ws ad H locs ls st hPw hgh hM hx hR
  have hE : ai_gE r Y.1 := hR.env
  obtain ⟨hWd, hS, hL, hSt⟩ := hR.wd
  obtain ⟨t, rfl, hq, h2⟩ := ai_gF.ref hSt
  have hsa : ad (i + 1) = sa.1 i := by
    obtain ⟨ws, -, -, -, -, -, -, hsa, -⟩ := hR
    exact hsa i hi
  have F0' := F
  obtain ⟨hx', hb, hml, hts, hown, hSt0, hA, hbud, hcls, hroom, hlocks⟩ := F
  obtain ⟨⟨adV, hV⟩, -, -⟩ := hSt0.2.2.2.2.2.2.2.2.2.2
  rw [hsa]
  subst ho
  refine sr_callV (As := []) (rest := t) (y := sr_yLen) (kk := 1) (tb := []) F0' sr_m3 rfl hw1 (sr_at 13 rfl) (sr_at 14 rfl) ⟨by show 8 + 1 + 1 ≤ n + 1 + 0 + 8; omega, by show 400 + 64 * 1 + 64 ≤ 64 * (n + 1 + 0) + 400; omega⟩ hdg rfl hL.2.1 (by have := ai_words_ok h2; omega) hS ⟨Nat.zero_le _, Nat.zero_le _⟩ (fun q hq => by cases hq) (vk_recv hV hi hS) (sr_len hi) (fun v locs1 hv hS1 => ?_)
  subst hv
  refine hk ws ad H locs1 ls _ hPw hgh hM hx (hWd.rel hS1 hL ⟨⟨hE.2.1, Int32.ofNat (ai_tl.getD i 0), rfl, ?_⟩, h2⟩)
  show _ = r 0 + Int.ofNat (rd_n i)
  rw [rd_t1 i hi, hE.1]
  show Int.ofNat (ai_tl.getD i 0) = 0 + Int.ofNat (ai_tl.getD i 0)
  omega
theorem pt_schr_ok (hn : 4 ≤ n) (F : ls_Fr p (lt_rm (n + 1) mi) s m args meth c D tyc A sa mi) (ho : (ct_mt mi).1.cls = own) (hw1 : Cond.methodLink own idx sr_yChar.1 ∈ ft_W) {i j : Nat} (hi : i < 10) {x : ai_X} (hj : j < rd_n i) (hxj : ai_vx r x = (j : Int)) (hdg : decode (ct_mt mi).2.1 pc = .ok (.invokevirtual idx, 3)) (hw : ai_words S ≤ 8)
    (hk : pt_W p l e s m args below meth c Q D tyc A sa ws0 ad0 n mi Y (pc + 3, 0, 0) L (.inl (0, ps_ch i j) :: S) r M) :
    pt_W p l e s m args below meth c Q D tyc A sa ws0 ad0 n mi Y (pc, 0, 0) L (.inl x :: rd_ref (i + 1) :: S) r M := by
  intro ws ad H locs ls st hPw hgh hM hx hR
  have hE : ai_gE r Y.1 := hR.env
  obtain ⟨hWd, hS, hL, hSt⟩ := hR.wd
  obtain ⟨ix, t1, rfl, hi1, hi2, h1⟩ := ai_gF.int hSt
  obtain ⟨t, rfl, hq, h2⟩ := ai_gF.ref h1
  have hsa : ad (i + 1) = sa.1 i := by
    obtain ⟨ws, -, -, -, -, -, -, hsa, -⟩ := hR
    exact hsa i hi
  have eix : ix = Int32.ofNat j := Int32.toInt_inj.mp (by rw [hi2, rd_t2 i hi j hj]; exact hxj)
  subst eix
  have F0' := F
  obtain ⟨hx', hb, hml, hts, hown, hSt0, hA, hbud, hcls, hroom, hlocks⟩ := F
  obtain ⟨⟨adV, hV⟩, -, -⟩ := hSt0.2.2.2.2.2.2.2.2.2.2
  rw [hsa]
  subst ho
  refine sr_callV (As := [.int (Int32.ofNat j)]) (rest := t) (y := sr_yChar) (kk := 3) (tb := []) F0' sr_m7 rfl hw1 (sr_at 19 rfl) (sr_at 20 rfl) ⟨by show 8 + 3 + 1 ≤ n + 1 + 0 + 8; omega, by show 400 + 64 * 3 + 64 ≤ 64 * (n + 1 + 0) + 400; omega⟩ hdg rfl hL.2.1 (by have := ai_words_ok h2; omega) hS ⟨Nat.zero_le _, Nat.zero_le _⟩ (fun q hq => by cases hq) (vk_recv hV hi hS) (sr_charX hi hj) (fun v locs1 hv hS1 => ?_)
  subst hv
  refine hk ws ad H locs1 ls _ hPw hgh hM hx (hWd.rel hS1 hL ⟨⟨hE.2.1, sr_chr ((ai_tb.getD i []).getD j 0), rfl, ?_⟩, h2⟩)
  show _ = r 0 + ps_ch i j
  rw [hE.1, Int.zero_add]
  rfl
end PTS
/-- a method's contract, where words' lengths and letters are asked -/
noncomputable def ps_SL (mi : Nat) (P : pt_P) : Prop := ∀ (pc idx i : Nat) (L S : List ai_V) (r : Nat → Int) (M : Nat → Nat → Int), i < 10 → Cond.methodLink (ct_mt mi).1.cls idx sr_yLen.1 ∈ ft_W → decode (ct_mt mi).2.1 pc = .ok (.invokevirtual idx, 3) → ai_words S ≤ 8 → P (pc + 3, 0, 0) L (.inl (0, .ofNat (rd_n i)) :: S) r M → P (pc, 0, 0) L (rd_ref (i + 1) :: S) r M
noncomputable def ps_SC (mi : Nat) (P : pt_P) : Prop := ∀ (pc idx i j : Nat) (x : ai_X) (L S : List ai_V) (r : Nat → Int) (M : Nat → Nat → Int), i < 10 → j < rd_n i → ai_vx r x = (j : Int) → Cond.methodLink (ct_mt mi).1.cls idx sr_yChar.1 ∈ ft_W → decode (ct_mt mi).2.1 pc = .ok (.invokevirtual idx, 3) → ai_words S ≤ 8 → P (pc + 3, 0, 0) L (.inl (0, ps_ch i j) :: S) r M → P (pc, 0, 0) L (.inl x :: rd_ref (i + 1) :: S) r M
theorem pt_introS {n mi : Nat} {Y : pt_Y} {aa L0 : List ai_V} {rt : Nat} {Pre : (Nat → Int) → (Nat → Nat → Int) → Prop} {Post : (Nat → Int) → (Nat → Nat → Int) → (Nat → Int) → (Nat → Nat → Int) → Option Int → Prop} (hpl : lh_plain mi = true) (hn : 4 ≤ n) (hs : pt_sys Y) (hL0 : ai_pad (ct_mt mi).2.2.1 aa = some L0)
    (body : ∀ (P : pt_P) (r : Nat → Int) (M : Nat → Nat → Int), pt_Cl n mi Y rt (Post r M) P → ps_SL mi P → ps_SC mi P → Pre r M → P (0, 0, 0) L0 [] r M) : pt_Met (n + 1) mi Y aa Pre Post rt := by
  intro l D tyc A sa hl ws r ad H0 As M hPw hM hpre hWd hA
  have h336 : Y.2.1.1 = 336 := by
    have hwf := hs.2
    unfold pt_wf at hwf
    simp only [Bool.and_eq_true] at hwf
    exact Nat.eq_of_beq_eq_true hwf.2.1
  refine lh_met hpl L0 hL0 hWd (by rw [← h336] at hA; exact hA) (fun p e s m below meth c ls F hret hH hR => ?_)
  exact body _ r M (pt_W_cl (p := p) (l := l) (e := e) (below := below) (ws0 := ws) (ad0 := ad) hpl F hret hl hn hs) (fun pc idx i L S r M h1 h2 h3 h4 h5 => pt_slen_ok hn F rfl h2 h1 h3 h4 h5) (fun pc idx i j x L S r M h1 h2 h3 h4 h5 h6 h7 => pt_schr_ok hn F rfl h4 h1 h2 h3 h5 h6 h7) hpre ws ad s.heap [] ls [] hPw pt_gh.rf hM ai_ext.rfl' hR
