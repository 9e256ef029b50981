/-! CONTRACTS BY HAND 8: reads1, reads2, reads3, reads4, reads5, reads6, reads7, reads8, reads9, reads10 -/
/-! reads, by hand: the text's length and letters through their methods -/
/-- a number onto the stack, known by its bounds -/
theorem rd_push {s : State} {D : va_G} {tyc : Nat → ClassId} {A : Nat → Prop} {sa : ai_B} {ws0 : va_W} {nL : Nat} {r : Nat → Int} {ad : Nat → Nat} {L S : List ai_V} {G : ai_G} {H : Heap} {locs : List Loc} {ls : Array Slot} {t : List Value} {v : Int32} {b : Int × Int} (hR : ai_Rel D tyc A s sa ws0 nL r ad L S G H locs ls t) (hb : b.1 ≤ v.toInt ∧ v.toInt ≤ b.2) :
    ∃ r', ai_ext G.1.1 r r' ∧ r' G.1.1 = v.toInt ∧ ai_Rel D tyc A s sa ws0 nL r' ad L (.inl (G.1.1, 0) :: S) (hg_new G b) H locs ls (.int v :: t) := by
  have hE := hR.env
  obtain ⟨-, -, -, h2⟩ := hR.wd
  cases en : ai_new G.1 b with
  | mk z E' =>
    obtain ⟨r', g1, g2, g3, g4, g5⟩ := ai_new_ok hE hb (ai_small32 (ai_i32 v)) en
    have ez : z = (G.1.1, 0) ∧ E'.1 = G.1.1 + 1 := by
      obtain ⟨⟨N, lb, ds⟩, G2⟩ := G
      cases en
      exact ⟨rfl, rfl⟩
    obtain ⟨rfl, hE1⟩ := ez
    have e0 : r' G.1.1 = v.toInt := by
      have : r' G.1.1 + 0 = v.toInt := g5
      omega
    refine ⟨r', g1, e0, ?_⟩
    have := hR.re (E' := E') (r' := r') (S' := .inl (G.1.1, 0) :: S) (st' := .int v :: t) g1 g2 g3 ⟨⟨by rw [hE1]; exact Nat.lt_succ_self _, _, rfl, g5.symm⟩, h2.mono g1 ai_ext.rfl' g2 (Nat.le_refl _)⟩
    unfold hg_new
    rw [en]
    exact this
/-- a number's bounds, known by hand -/
noncomputable def rd_cap (G : ai_G) (t : Nat) (b : Int × Int) : ai_G := ((G.1.1, (t, b) :: G.1.2.1, G.1.2.2), G.2)
theorem rd_cap_ok {s : State} {D : va_G} {tyc : Nat → ClassId} {A : Nat → Prop} {sa : ai_B} {ws0 : va_W} {nL : Nat} {r : Nat → Int} {ad : Nat → Nat} {L S : List ai_V} {G : ai_G} {H : Heap} {locs : List Loc} {ls : Array Slot} {st : List Value} {t : Nat} {b : Int × Int} (hR : ai_Rel D tyc A s sa ws0 nL r ad L S G H locs ls st) (ht : t < G.1.1) (hb : b.1 ≤ r t ∧ r t ≤ b.2) : ai_Rel D tyc A s sa ws0 nL r ad L S (rd_cap G t b) H locs ls st := by
  obtain ⟨ws, hP, hD, hS, hE, hH, hO, hsa, hL, hSt⟩ := hR
  refine ⟨ws, hP, hD, hS, ⟨hE.1, hE.2.1, hE.2.2.1, fun q hq => ?_, hE.2.2.2.2⟩, hH, hO, hsa, hL, hSt⟩
  rcases List.mem_cons.mp hq with rfl | hq
  · exact ⟨ht, hb⟩
  · exact hE.2.2.2.1 q hq
theorem rd_t1 : ∀ i, i < 10 → (Int32.ofNat (ai_tl.getD i 0)).toInt = Int.ofNat (ai_tl.getD i 0) := by decide +kernel
theorem rd_t2 : ∀ i, i < 10 → ∀ j, j < ai_tl.getD i 0 → (Int32.ofNat j).toInt = Int.ofNat j := by decide +kernel
noncomputable def rd_n (k : Nat) : Nat := ai_tl.getD k 0
noncomputable def rd_b (k : Nat) : Int × Int := (Int.ofNat (rd_n k), Int.ofNat (rd_n k))
abbrev rd_ref (q : Nat) : ai_V := .inr (.inr (some (some q)))
section RC
variable {p : Program} {l : Launch} {e : Env} {s : State} {m : MethodId} {args : Array Value} {below : List Frame} {meth : Method} {c : Code} {Q : State → Prop}
variable {D : va_G} {tyc : Nat → ClassId} {A : Nat → Prop} {sa : ai_B} {ws0 : va_W} {n mi pc idx i : Nat} {own : String} {r : Nat → Int} {ad : Nat → Nat} {L S : List ai_V} {G : ai_G} {H : Heap} {locs : List Loc} {ls : Array Slot} {st : List Value}
theorem rd_len (hn : 4 ≤ n) (F : ls_Fr p (lt_rm (n + 1) mi) s m args meth c D tyc A sa mi) (ho : (ct_mt mi).1.cls = own) (hw1 : Cond.methodLink own idx sr_yLen.1 ∈ ft_W) (hi : i < 10) (hdg : decode (ct_mt mi).2.1 pc = .ok (.invokevirtual idx, 3))
    (hR : ai_Rel D tyc A s sa ws0 (ct_mt mi).2.2.1 r ad L (rd_ref (i + 1) :: S) G H locs ls st) (hw : ai_words S ≤ 8) (h0 : G.2.2 = (0, 0))
    (k : ∀ (r' : Nat → Int) (locs1 : List Loc) (st' : List Value), ai_ext G.1.1 r r' → ai_Rel D tyc A s sa ws0 (ct_mt mi).2.2.1 r' ad L (.inl (G.1.1, 0) :: S) (hg_new G (rd_b i)) H locs1 ls st' → W p l e (lt_rm (n + 1) mi) s m args below meth c H locs1 0 0 Q (F0 m (pc + 3) ls st')) :
    W p l e (lt_rm (n + 1) mi) s m args below meth c H locs 0 0 Q (F0 m pc ls st) := by
  obtain ⟨hWd, hS, hL, hSt⟩ := hR.wd
  obtain ⟨t, rfl, hq, h2⟩ := ai_gF.ref hSt
  have hsa : ad (i + 1) = sa.1 i := by
    obtain ⟨ws, -, -, -, -, -, -, hsa, -⟩ := hR
    exact hsa i hi
  have F0' := F
  obtain ⟨hx, hb, hml, hts, hown, hSt0, hA, hbud, hcls, hroom, hlocks⟩ := F
  obtain ⟨⟨adV, hV⟩, -, -⟩ := hSt0.2.2.2.2.2.2.2.2.2.2
  rw [hsa]
  subst ho
  refine sr_callV (As := []) (rest := t) (y := sr_yLen) (kk := 1) (tb := []) F0' sr_m3 rfl hw1 (sr_at 13 rfl) (sr_at 14 rfl) ⟨by show 8 + 1 + 1 ≤ n + 1 + 0 + 8; omega, by show 400 + 64 * 1 + 64 ≤ 64 * (n + 1 + 0) + 400; omega⟩ hdg rfl hL.2.1 (by have := ai_words_ok h2; omega) hS ⟨Nat.zero_le _, Nat.zero_le _⟩ (fun q hq => by cases hq) (vk_recv hV hi hS) (sr_len hi) (fun v locs1 hv hS1 => ?_)
  subst hv
  have hR1 := hWd.rel hS1 hL h2
  obtain ⟨r', g1, g2, g3⟩ := rd_push (v := Int32.ofNat (ai_tl.getD i 0)) (b := rd_b i) hR1 (by rw [rd_t1 i hi]; exact ⟨Int.le_refl _, Int.le_refl _⟩)
  exact k r' locs1 _ g1 g3
theorem rd_char (hn : 4 ≤ n) (F : ls_Fr p (lt_rm (n + 1) mi) s m args meth c D tyc A sa mi) (ho : (ct_mt mi).1.cls = own) (hw1 : Cond.methodLink own idx sr_yChar.1 ∈ ft_W) (hi : i < 10) {x : ai_X} {j : Nat} (hj : j < rd_n i) (hxj : ai_vx r x = Int.ofNat j) (hdg : decode (ct_mt mi).2.1 pc = .ok (.invokevirtual idx, 3))
    (hR : ai_Rel D tyc A s sa ws0 (ct_mt mi).2.2.1 r ad L (.inl x :: rd_ref (i + 1) :: S) G H locs ls st) (hw : ai_words S ≤ 8) (h0 : G.2.2 = (0, 0))
    (k : ∀ (r' : Nat → Int) (locs1 : List Loc) (st' : List Value), ai_ext G.1.1 r r' → ai_Rel D tyc A s sa ws0 (ct_mt mi).2.2.1 r' ad L (.inl (G.1.1, 0) :: S) (hg_new G (ai_lo32, ai_hi32)) H locs1 ls st' → W p l e (lt_rm (n + 1) mi) s m args below meth c H locs1 0 0 Q (F0 m (pc + 3) ls st')) :
    W p l e (lt_rm (n + 1) mi) s m args below meth c H locs 0 0 Q (F0 m pc ls st) := by
  obtain ⟨hWd, hS, hL, hSt⟩ := hR.wd
  obtain ⟨ix, t1, rfl, hi1, hi2, h1⟩ := ai_gF.int hSt
  obtain ⟨t, rfl, hq, h2⟩ := ai_gF.ref h1
  have hsa : ad (i + 1) = sa.1 i := by
    obtain ⟨ws, -, -, -, -, -, -, hsa, -⟩ := hR
    exact hsa i hi
  have eix : ix = Int32.ofNat j := Int32.toInt_inj.mp (by rw [hi2, hxj, rd_t2 i hi j hj])
  subst eix
  have F0' := F
  obtain ⟨hx, hb, hml, hts, hown, hSt0, hA, hbud, hcls, hroom, hlocks⟩ := F
  obtain ⟨⟨adV, hV⟩, -, -⟩ := hSt0.2.2.2.2.2.2.2.2.2.2
  rw [hsa]
  subst ho
  refine sr_callV (As := [.int (Int32.ofNat j)]) (rest := t) (y := sr_yChar) (kk := 3) (tb := []) F0' sr_m7 rfl hw1 (sr_at 19 rfl) (sr_at 20 rfl) ⟨by show 8 + 3 + 1 ≤ n + 1 + 0 + 8; omega, by show 400 + 64 * 3 + 64 ≤ 64 * (n + 1 + 0) + 400; omega⟩ hdg rfl hL.2.1 (by have := ai_words_ok h2; omega) hS ⟨Nat.zero_le _, Nat.zero_le _⟩ (fun q hq => by cases hq) (vk_recv hV hi hS) (sr_char hi hj) (fun v locs1 hv hS1 => ?_)
  obtain ⟨u, rfl, -⟩ := hv
  have hR1 := hWd.rel hS1 hL h2
  obtain ⟨r', g1, g2, g3⟩ := rd_push (v := u) (b := (ai_lo32, ai_hi32)) hR1 (ai_i32 u)
  exact k r' locs1 _ g1 g3
end RC
noncomputable def rd_E : ai_E := sm_E (1, [], []) cn_reads1.1
noncomputable def rd_h : ai_H := cn_reads1.2.2.1
noncomputable def rd_W : List sm_W := cn_reads1.2.2.2
noncomputable def rd_L (k : Nat) (x : ai_V) : List ai_V := [rd_ref 84, rd_ref (k + 1), x]
noncomputable def rd_u : ai_V := .inr (.inr none)
noncomputable def rd_G0 : ai_G := (rd_E, rd_h, 0, 0)
noncomputable def rd_G (k : Nat) : ai_G := rd_cap (sm_E rd_E [(0, 7)], rd_h, 0, 0) 7 (0, 200 - Int.ofNat (rd_n k))
noncomputable def rd_chk (mi : Nat) (stop : List Nat) (pc : Nat) (L S : List ai_V) (G : ai_G) (P : ai_F → Bool) : Bool := match ls_sg [] mi stop false pc L S G with
  | some fs => fs.all P
  | none => false
noncomputable def rd_at (pc : Nat) (S : List ai_V) (f : ai_F) : Bool := Nat.beq f.1 pc && (decide (f.2.2.1 = S) && (Nat.ble 10 f.2.2.2.1.1 && (Nat.beq f.2.2.2.2.1.1 336 && (Nat.beq f.2.2.2.2.2.1 0 && Nat.beq f.2.2.2.2.2.2 0))))
theorem rd_atok {pc : Nat} {S : List ai_V} {f : ai_F} (h : rd_at pc S f = true) : f.1 = pc ∧ f.2.2.1 = S ∧ 10 ≤ f.2.2.2.1.1 ∧ f.2.2.2.2.1.1 = 336 ∧ f.2.2.2.2.2.1 = 0 ∧ f.2.2.2.2.2.2 = 0 := by
  unfold rd_at at h
  simp only [Bool.and_eq_true, decide_eq_true_eq] at h
  obtain ⟨h1, h2, h3, h4, h5, h6⟩ := h
  exact ⟨Nat.eq_of_beq_eq_true h1, h2, Nat.le_of_ble_eq_true h3, Nat.eq_of_beq_eq_true h4, Nat.eq_of_beq_eq_true h5, Nat.eq_of_beq_eq_true h6⟩
noncomputable def rd_fin (pc : Nat) (f : ai_F) : Bool := rd_at pc [] f && ls_fin [] 110 [] rd_E rd_W pc f.2.1 [] f.2.2.2
noncomputable def rd_hd (k : Nat) (g : ai_F) : Bool := rd_at 37 [] g && hw_sub rd_E [(0, 7)] rd_h (rd_L k (.inl (10, 0))) [] g.2.1 [] g.2.2.2
noncomputable def rd_c (k : Nat) (g : ai_F) : Bool := rd_fin 33 g || (rd_hd k g && (decide (ai_lget g.2.1 2 = .inl (0, 0)) && (decide ((11, rd_b k) ∈ g.2.2.2.1.2.1) && (decide ((1, 11, (6, 0), (7, 0)) ∈ g.2.2.2.1.2.2) && Nat.blt 11 g.2.2.2.1.1))))
noncomputable def rd_a (k : Nat) (f : ai_F) : Bool := rd_fin 33 f || (rd_at 18 [rd_ref (k + 1)] f && rd_chk 110 [33, 37] 21 f.2.1 [.inl (f.2.2.2.1.1, 0)] (hg_new f.2.2.2 (rd_b k)) (rd_c k))
noncomputable def rd_f (k : Nat) (i : ai_F) : Bool := rd_fin 64 i || (rd_hd k i && decide (ai_lget i.2.1 2 = .inl (10, 1)))
noncomputable def rd_S (g : ai_F) : List ai_V := g.2.2.1.drop 2
noncomputable def rd_e (k : Nat) (g : ai_F) : Bool := rd_fin 72 g || (rd_at 58 (.inl (10, 0) :: rd_ref (k + 1) :: rd_S g) g && (Nat.ble (ai_words (rd_S g)) 8 && (decide ((10, ((0 : Int), Int.ofNat (rd_n k) - 1)) ∈ g.2.2.2.1.2.1) && (Nat.blt 10 g.2.2.2.1.1 && rd_chk 110 [37, 64] 61 g.2.1 (.inl (g.2.2.2.1.1, 0) :: rd_S g) (hg_new g.2.2.2 (ai_lo32, ai_hi32)) (rd_f k)))))
noncomputable def rd_d (k : Nat) (f : ai_F) : Bool := rd_at 39 [rd_ref (k + 1), .inl (10, 0)] f && (Nat.blt 10 f.2.2.2.1.1 && rd_chk 110 [58, 72] 42 f.2.1 [.inl (f.2.2.2.1.1, 0), .inl (10, 0)] (hg_new f.2.2.2 (rd_b k)) (rd_e k))
theorem rd_pl : ls_plain 110 = true := by decide +kernel
theorem rd_k1 : ∀ k, k < 10 → rd_chk 110 [18, 33] 0 (rd_L k rd_u) [] rd_G0 (rd_a k) = true := by decide +kernel
theorem rd_k2 : ∀ k, k < 10 → rd_chk 110 [39] 37 (rd_L k (.inl (10, 0))) [] (rd_G k) (rd_d k) = true := by decide +kernel
theorem rd_N : rd_E.1 = 10 ∧ rd_E.2.2 = [] ∧ rd_h.1 = 336 ∧ rd_G0.1.1 = 10 ∧ (∀ k, (rd_G k).1.1 = 11) ∧ (∀ k, k < 10 → rd_n k ≤ 7) := ⟨by decide +kernel, by decide +kernel, by decide +kernel, by decide +kernel, fun k => (by decide +kernel : (sm_E rd_E [((0 : Int), (7 : Int))]).1 = 11), by decide +kernel⟩
theorem rd_dc : decode (ct_mt 110).2.1 18 = .ok (.invokevirtual 142, 3) ∧ decode (ct_mt 110).2.1 39 = .ok (.invokevirtual 142, 3) ∧ decode (ct_mt 110).2.1 58 = .ok (.invokevirtual 146, 3) ∧ (ct_mt 110).1.cls = "LightsMarket$Reader" := by decide +kernel
section RD
variable {p : Program} {l : Launch} {e : Env} {s : State} {m : MethodId} {args : Array Value} {below : List Frame} {meth : Method} {c : Code} {Q : State → Prop}
variable {D : va_G} {tyc : Nat → ClassId} {A : Nat → Prop} {sa : ai_B} {ws0 : va_W} {n mi : Nat} {r : Nat → Int} {ad : Nat → Nat}
theorem rd_chk_ok {stop : List Nat} {pc : Nat} {L S : List ai_V} {G : ai_G} {P : ai_F → Bool} {r' : Nat → Int} {ad' : Nat → Nat} {H : Heap} {locs : List Loc} {ls : Array Slot} {st : List Value} (hpl : ls_plain mi = true) (F : ls_Fr p (lt_rm (n + 1) mi) s m args meth c D tyc A sa mi) (hl : l.stackTraces = false) (hPw : ai_Pw tyc ws0)
    (h : rd_chk mi stop pc L S G P = true) (h0 : G.2.2 = (0, 0)) (hR : ai_Rel D tyc A s sa ws0 (ct_mt mi).2.2.1 r' ad' L S G H locs ls st)
    (k : ∀ f, P f = true → ls_K p l e (lt_rm (n + 1) mi) s m args below meth c Q D tyc A sa ws0 (ct_mt mi).2.2.1 r' ad' G f) :
    W p l e (lt_rm (n + 1) mi) s m args below meth c H locs 0 0 Q (F0 m pc ls st) := by
  unfold rd_chk at h
  split at h
  · rename_i fs ef
    have := ls_ok (n := n) (T := []) (Q := Q) (below := below) (e := e) hpl F hl trivial hPw ef hR (fun f hf => k f (List.all_eq_true.mp h f hf))
    rw [h0] at this
    exact this
  · cases h
abbrev rd_Q (below : List Frame) (D : va_G) (tyc : Nat → ClassId) (A : Nat → Prop) (sa : ai_B) (ws0 : va_W) (r : Nat → Int) (ad : Nat → Nat) (args : Array Value) (s : State) (n : Nat) : State → Prop := vx_MQ below (ai_Qc D tyc A sa ws0 r ad rd_E.1 336 (rd_W.map (sm_out rd_E))) (ai_XC D tyc A sa ws0 r ad rd_E.1 336 (rd_W.map (sm_out rd_E))) args s (lt_rm (n + 1) 110).cells (lt_rm (n + 1) 110).slots A
theorem rd_fin_ok {pc : Nat} {f : ai_F} {r' : Nat → Int} {ad' : Nat → Nat} {H : Heap} {locs : List Loc} {ls : Array Slot} {st : List Value} (F : ls_Fr p (lt_rm (n + 1) 110) s m args meth c D tyc A sa 110) (hl : l.stackTraces = false) (hret : meth.sig.returnType = (ct_mt 110).2.2.2.1) (htb : ∀ x ∈ c.exceptionTable.toList, False) (hPw : ai_Pw tyc ws0) (hE : ai_gE r rd_E)
    (h : rd_fin pc f = true) (hR : ai_Rel D tyc A s sa ws0 (ct_mt 110).2.2.1 r' ad' f.2.1 f.2.2.1 f.2.2.2 H locs ls st) (hx : ai_ext 10 r r') (hax : ai_ext 336 ad ad') :
    W p l e (lt_rm (n + 1) 110) s m args below meth c H locs f.2.2.2.2.2.1 f.2.2.2.2.2.2 (rd_Q below D tyc A sa ws0 r ad args s n) (F0 m f.1 ls st) := by
  unfold rd_fin at h
  rw [Bool.and_eq_true] at h
  obtain ⟨d1, d2, d3, d4, d5, d6⟩ := rd_atok h.1
  obtain ⟨N1, N2, N3, N4, N5, N6⟩ := rd_N
  rw [d1]
  rw [d2] at hR
  exact ls_fin_ok (T := []) (n := n) (r0 := r) (ad0 := ad) (n0 := 336) rd_pl F hl hret htb trivial hPw hE N2 h.2 hR (by rw [N1]; exact hx) hax (by rw [N1]; exact d3) (by rw [d4]; exact Nat.le_refl _)
theorem rd_loop (hn : 4 ≤ n) (F : ls_Fr p (lt_rm (n + 1) 110) s m args meth c D tyc A sa 110) (hl : l.stackTraces = false) (hret : meth.sig.returnType = (ct_mt 110).2.2.2.1) (htb : ∀ x ∈ c.exceptionTable.toList, False) (hPw : ai_Pw tyc ws0) (hE : ai_gE r rd_E) {k : Nat} (hk : k < 10) (h7 : 0 ≤ r 7 ∧ r 7 ≤ 200 - Int.ofNat (rd_n k)) :
    ∀ (d : Nat) (r' : Nat → Int) (ad' : Nat → Nat) (H : Heap) (locs : List Loc) (ls : Array Slot) (st : List Value), (7 - r' 10).toNat = d → ai_Rel D tyc A s sa ws0 (ct_mt 110).2.2.1 r' ad' (rd_L k (.inl (10, 0))) [] (sm_E rd_E [(0, 7)], rd_h, 0, 0) H locs ls st → ai_ext 10 r r' → ai_ext 336 ad ad' →
      W p l e (lt_rm (n + 1) 110) s m args below meth c H locs 0 0 (rd_Q below D tyc A sa ws0 r ad args s n) (F0 m 37 ls st) := by
  intro d
  induction d using Nat.strongRecOn with
  | _ d ih =>
    intro r' ad' H locs ls st hd hR hx hax
    obtain ⟨N1, N2, N3, N4, N5, N6⟩ := rd_N
    obtain ⟨D1, D2, D3, D4⟩ := rd_dc
    have hN : (sm_E rd_E [((0 : Int), (7 : Int))]).1 = 11 := N5 k
    have hRc := rd_cap_ok (t := 7) (b := (0, 200 - Int.ofNat (rd_n k))) hR (by show 7 < (sm_E rd_E [((0 : Int), (7 : Int))]).1; rw [hN]; omega) (by rw [hx 7 (by omega)]; exact h7)
    have hRc : ai_Rel D tyc A s sa ws0 (ct_mt 110).2.2.1 r' ad' (rd_L k (.inl (10, 0))) [] (rd_G k) H locs ls st := hRc
    refine rd_chk_ok rd_pl F hl hPw (rd_k2 k hk) rfl hRc (fun f hf => ?_)
    intro r1 ad1 x1 x2 x3 x4 H1 locs1 ls1 st1 hR1
    unfold rd_d at hf
    simp only [Bool.and_eq_true] at hf
    obtain ⟨c1, c2, c3⟩ := hf
    obtain ⟨d1, d2, d3, d4, d5, d6⟩ := rd_atok c1
    have c2 := Nat.le_of_ble_eq_true c2
    rw [d1, d5, d6]
    rw [d2] at hR1
    have x1 : ai_ext 11 r' r1 := by rw [N5 k] at x1; exact x1
    have x2 : ai_ext 336 ad' ad1 := x2
    have g0 : f.2.2.2.2.2 = (0, 0) := Prod.ext d5 d6
    refine rd_len hn F D4 (sr_at 4 rfl) hk D2 hR1 (by decide) g0 (fun r2 locs2 st2 y1 hR2 => ?_)
    have y1 : ai_ext 11 r1 r2 := y1.mono c2
    refine rd_chk_ok rd_pl F hl hPw c3 g0 hR2 (fun g hg => ?_)
    intro r3 ad3 z1 z2 z3 z4 H3 locs3 ls3 st3 hR3
    have hNf : (hg_new f.2.2.2 (rd_b k)).1.1 = f.2.2.2.1.1 + 1 := rfl
    have z1 : ai_ext 11 r2 r3 := z1.mono (by rw [hNf]; omega)
    have z2 : ai_ext 336 ad1 ad3 := z2.mono (by
      show 336 ≤ f.2.2.2.2.1.1
      omega)
    have hx3 : ai_ext 11 r' r3 := fun u hu => (z1 u hu).trans ((y1 u hu).trans (x1 u hu))
    have hax3 : ai_ext 336 ad ad3 := fun u hu => (z2 u hu).trans ((x2 u hu).trans (hax u hu))
    unfold rd_e at hg
    rw [Bool.or_eq_true] at hg
    rcases hg with hg | hg
    · exact rd_fin_ok F hl hret htb hPw hE hg hR3 (fun u hu => (hx3 u (by omega)).trans (hx u hu)) hax3
    · simp only [Bool.and_eq_true, decide_eq_true_eq] at hg
      obtain ⟨e1, e2, e3, e4, e5⟩ := hg
      obtain ⟨i1, i2, i3, i4, i5, i6⟩ := rd_atok e1
      have e4 := Nat.le_of_ble_eq_true e4
      have g1 : g.2.2.2.2.2 = (0, 0) := Prod.ext i5 i6
      rw [i1, i5, i6]
      rw [i2] at hR3
      have hb := (hR3.env.2.2.2.1 _ e3).2
      have hb1 : (0 : Int) ≤ r3 10 := hb.1
      have hb2 : r3 10 ≤ Int.ofNat (rd_n k) - 1 := hb.2
      have hj : (r3 10).toNat < rd_n k := by
        have : Int.ofNat (rd_n k) = (rd_n k : Int) := rfl
        omega
      refine rd_char hn F D4 (sr_at 5 rfl) hk hj (by show r3 10 + 0 = Int.ofNat (r3 10).toNat; have : Int.ofNat (r3 10).toNat = ((r3 10).toNat : Int) := rfl; omega) D3 hR3 (Nat.le_of_ble_eq_true e2) g1 (fun r4 locs4 st4 w1 hR4 => ?_)
      have w1 : ai_ext 11 r3 r4 := w1.mono e4
      refine rd_chk_ok rd_pl F hl hPw e5 g1 hR4 (fun i hi => ?_)
      intro r5 ad5 u1 u2 u3 u4 H5 locs5 ls5 st5 hR5
      have u1 : ai_ext 11 r4 r5 := u1.mono (by show 11 ≤ g.2.2.2.1.1 + 1; omega)
      have u2 : ai_ext 336 ad3 ad5 := u2.mono (by show 336 ≤ g.2.2.2.2.1.1; omega)
      have hx5 : ai_ext 11 r' r5 := fun u hu => (u1 u hu).trans ((w1 u hu).trans (hx3 u hu))
      have hax5 : ai_ext 336 ad ad5 := fun u hu => (u2 u hu).trans (hax3 u hu)
      have hx50 : ai_ext 10 r r5 := fun u hu => (hx5 u (by omega)).trans (hx u hu)
      unfold rd_f at hi
      rw [Bool.or_eq_true] at hi
      rcases hi with hi | hi
      · exact rd_fin_ok F hl hret htb hPw hE hi hR5 hx50 hax5
      · unfold rd_hd at hi
        simp only [Bool.and_eq_true, decide_eq_true_eq] at hi
        obtain ⟨⟨j1, j2⟩, j3⟩ := hi
        obtain ⟨k1, k2, k3, k4, k5, k6⟩ := rd_atok j1
        rw [k1, k5, k6]
        rw [k2] at hR5
        obtain ⟨r6, t1, hR6⟩ := hw_ok (L' := rd_L k (.inl (10, 0))) (S' := []) hE N2 (by rw [N1]; exact hx50) (by rw [N1]; exact k3) hR5 j2
        rw [N1] at t1
        have gi : i.2.2.2.2.2 = (0, 0) := Prod.ext k5 k6
        rw [gi] at hR6
        have v2 := hg_same (i := 2) (x' := (10, 0)) hR5 hR6 j3 rfl
        have v2 : r6 10 + 0 = r5 10 + 1 := v2
        have v3 : r5 10 = r3 10 := (u1 10 (by omega)).trans (w1 10 (by omega))
        have v4 : r3 10 = r' 10 := hx3 10 (by omega)
        have hle : Int.ofNat (rd_n k) = (rd_n k : Int) := rfl
        have hn7 := N6 k hk
        exact ih (7 - r6 10).toNat (by omega) r6 ad5 H5 locs5 ls5 st5 rfl hR6 t1 hax5
theorem rd_ok {k : Nat} (hk : k < 10) : lt_ok 40 110 (cn_reads1.1, [rd_ref 84, rd_ref (k + 1)], cn_reads1.2.2) := by
  refine lt_hand (n := 39) rd_pl ((by decide +kernel : ∀ k, k < 10 → us_ck (cn_reads1.1, [rd_ref 84, rd_ref (k + 1)], cn_reads1.2.2) = true) k hk) (rd_L k rd_u) (by
    have e : (ct_mt 110).2.2.1 = 3 := by decide +kernel
    rw [e]
    rfl) (fun l D tyc A sa hl ws0 r ad hPw hE p e s m args below meth c ls F hret htb hR => ?_)
  have hR : ai_Rel D tyc A s sa ws0 (ct_mt 110).2.2.1 r ad (rd_L k rd_u) [] rd_G0 s.heap [] ls [] := hR
  have hE : ai_gE r rd_E := hE
  obtain ⟨N1, N2, N3, N4, N5, N6⟩ := rd_N
  obtain ⟨D1, D2, D3, D4⟩ := rd_dc
  show W p l e (lt_rm (39 + 1) 110) s m args below meth c s.heap [] 0 0 (rd_Q below D tyc A sa ws0 r ad args s 39) (F0 m 0 ls [])
  refine rd_chk_ok rd_pl F hl hPw (rd_k1 k hk) rfl hR (fun f hf => ?_)
  intro r1 ad1 x1 x2 x3 x4 H1 locs1 ls1 st1 hR1
  have x1 : ai_ext 10 r r1 := by rw [N4] at x1; exact x1
  have x2 : ai_ext 336 ad ad1 := x2
  unfold rd_a at hf
  rw [Bool.or_eq_true] at hf
  rcases hf with hf | hf
  · exact rd_fin_ok F hl hret htb hPw hE hf hR1 x1 x2
  · rw [Bool.and_eq_true] at hf
    obtain ⟨c1, c2⟩ := hf
    obtain ⟨d1, d2, d3, d4, d5, d6⟩ := rd_atok c1
    rw [d1, d5, d6]
    rw [d2] at hR1
    have g0 : f.2.2.2.2.2 = (0, 0) := Prod.ext d5 d6
    refine rd_len (n := 39) (by omega) F D4 (sr_at 4 rfl) hk D1 hR1 (by decide) g0 (fun r2 locs2 st2 y1 hR2 => ?_)
    have y1 : ai_ext 10 r1 r2 := y1.mono d3
    refine rd_chk_ok rd_pl F hl hPw c2 g0 hR2 (fun g hg => ?_)
    intro r3 ad3 z1 z2 z3 z4 H3 locs3 ls3 st3 hR3
    have z1 : ai_ext 10 r2 r3 := z1.mono (by show 10 ≤ f.2.2.2.1.1 + 1; omega)
    have z2 : ai_ext 336 ad1 ad3 := z2.mono (by show 336 ≤ f.2.2.2.2.1.1; omega)
    have hx3 : ai_ext 10 r r3 := fun u hu => (z1 u hu).trans ((y1 u hu).trans (x1 u hu))
    have hax3 : ai_ext 336 ad ad3 := fun u hu => (z2 u hu).trans (x2 u hu)
    unfold rd_c at hg
    rw [Bool.or_eq_true] at hg
    rcases hg with hg | hg
    · exact rd_fin_ok F hl hret htb hPw hE hg hR3 hx3 hax3
    · unfold rd_hd at hg
      simp only [Bool.and_eq_true, decide_eq_true_eq] at hg
      obtain ⟨⟨j1, j2⟩, j3, j4, j5, j6⟩ := hg
      obtain ⟨k1, k2, k3, k4, k5, k6⟩ := rd_atok j1
      have j6 := Nat.le_of_ble_eq_true j6
      rw [k1, k5, k6]
      rw [k2] at hR3
      have hEr := hR3.env
      have b11 := (hEr.2.2.2.1 _ j4).2
      have q11 : r3 11 = ((r3 6 + 0) - (r3 7 + 0)).bmod 4294967296 := (hEr.2.2.2.2 _ j5).2.2.2
      have b6 := (hE.2.2.2.1 (6, (0, 200)) (by decide +kernel)).2
      have b7 := (hE.2.2.2.1 (7, (0, 200)) (by decide +kernel)).2
      have h6 : r3 6 = r 6 := hx3 6 (by omega)
      have h7 : r3 7 = r 7 := hx3 7 (by omega)
      have b61 : (0 : Int) ≤ r 6 := b6.1
      have b62 : r 6 ≤ 200 := b6.2
      have b71 : (0 : Int) ≤ r 7 := b7.1
      have b72 : r 7 ≤ 200 := b7.2
      have b111 : Int.ofNat (rd_n k) ≤ r3 11 := b11.1
      have qq : ((r3 6 + 0) - (r3 7 + 0)).bmod 4294967296 = r 6 - r 7 := by
        rw [h6, h7, show (r 6 + 0) - (r 7 + 0) = r 6 - r 7 by omega]
        exact ai_bm32_id (by show -2147483648 ≤ r 6 - r 7; omega) (by show r 6 - r 7 ≤ 2147483647; omega)
      rw [qq] at q11
      obtain ⟨r6, t1, hR6⟩ := hw_ok (L' := rd_L k (.inl (10, 0))) (S' := []) hE N2 (by rw [N1]; exact hx3) (by rw [N1]; exact k3) hR3 j2
      rw [N1] at t1
      have gi : g.2.2.2.2.2 = (0, 0) := Prod.ext k5 k6
      rw [gi] at hR6
      exact rd_loop (n := 39) (by omega) F hl hret htb hPw hE hk ⟨b71, by omega⟩ _ r6 ad3 H3 locs3 ls3 st3 rfl hR6 t1 hax3
end RD
theorem cp_reads1 : lt_ok 40 110 cn_reads1 := rd_ok (k := 0) (by decide)
theorem cp_reads2 : lt_ok 40 110 cn_reads2 := rd_ok (k := 1) (by decide)
theorem cp_reads3 : lt_ok 40 110 cn_reads3 := rd_ok (k := 2) (by decide)
theorem cp_reads4 : lt_ok 40 110 cn_reads4 := rd_ok (k := 3) (by decide)
theorem cp_reads5 : lt_ok 40 110 cn_reads5 := rd_ok (k := 4) (by decide)
theorem cp_reads6 : lt_ok 40 110 cn_reads6 := rd_ok (k := 5) (by decide)
theorem cp_reads7 : lt_ok 40 110 cn_reads7 := rd_ok (k := 6) (by decide)
theorem cp_reads8 : lt_ok 40 110 cn_reads8 := rd_ok (k := 7) (by decide)
theorem cp_reads9 : lt_ok 40 110 cn_reads9 := rd_ok (k := 8) (by decide)
theorem cp_reads10 : lt_ok 40 110 cn_reads10 := rd_ok (k := 9) (by decide)
