/-! TEXTS: rows with no call, where the offers may be out of order -/
section SG0
variable {p : Program} {l : Launch} {e : Env} {R : Room} {s : State} {m : MethodId} {args : Array Value} {below : List Frame} {meth : Method} {c : Code} {Q : State → Prop}
variable {D : va_G} {tyc : Nat → ClassId} {A : Nat → Prop} {sa : ai_B} {ws0 : va_W} {nL : Nat} {cc : ByteArray} {own : String} {Wg : List Cond} {strs : List ai_Z} {nws : List Cond} {bud : Nat × Nat} {dflt : Nat → List ai_V} {kind : Nat → Nat → Nat} {ini : Bool} {ret : Option FieldType} {tb : List (Nat × Nat × Nat × Nat)}
variable {code : Nat → Option (ClassFile.Instr × Nat × Nat × Nat)} {hand : Nat → Nat → Option (Nat × Nat)} {cbud : Nat → Nat × Nat} {callee : Nat → List ai_V → ai_G → ai_Q} {stop : Nat → Bool} {mt : Nat → ai_MT} {rm : Nat → Room}
set_option maxHeartbeats 4000000 in
theorem sg_ok0 (F : ai_Fr p R s m args meth c D tyc A sa nL cc own Wg strs nws bud dflt kind) (hini : ini = true → meth.name = "<init>")
    (hcode : ai_tab Wg nws strs mt own ini ret cc tb code) : ∀ (n : Nat) (skip : Bool) (pc : Nat) (L S : List ai_V) (G : ai_G) (fs : List ai_F) (r : Nat → Int) (ad : Nat → Nat) (H : Heap) (locs : List Loc) (ls : Array Slot) (st : List Value),
    sg_run code (fun _ _ => none) bud cbud dflt kind (fun _ _ _ => none) stop n skip pc L S G = some fs → ai_Rel D tyc A s sa ws0 nL r ad L S G H locs ls st →
    (∀ f ∈ fs, ∀ (r' : Nat → Int) (ad' : Nat → Nat), ai_ext G.1.1 r r' → ai_ext G.2.1.1 ad ad' → G.1.1 ≤ f.2.2.2.1.1 → G.2.1.1 ≤ f.2.2.2.2.1.1 → ∀ (H' : Heap) (locs' : List Loc) (ls' : Array Slot) (st' : List Value), ai_Rel D tyc A s sa ws0 nL r' ad' f.2.1 f.2.2.1 f.2.2.2 H' locs' ls' st' → W p l e R s m args below meth c H' locs' f.2.2.2.2.2.1 f.2.2.2.2.2.2 Q (F0 m f.1 ls' st')) →
    W p l e R s m args below meth c H locs G.2.2.1 G.2.2.2 Q (F0 m pc ls st) := by
  intro n
  induction n with
  | zero => intro skip pc L S G fs r ad H locs ls st h; cases h
  | succ n ih =>
    intro skip pc L S G fs r ad H locs ls st h hR kk
    unfold sg_run at h
    split at h
    · cases h
      exact kk _ List.mem_cons_self r ad ai_ext.rfl' ai_ext.rfl' (Nat.le_refl _) (Nat.le_refl _) H locs ls st hR
    · split at h
      · cases h
      · rename_i i len a b ec
        obtain ⟨d1, d2, d3, d4, d5⟩ := hcode pc i len a b ec
        have next : ∀ {pc2 : Nat} {L2 S2 : List ai_V} {G2 : ai_G} {o : List ai_F} {r' : Nat → Int} {ad' : Nat → Nat} {H1 : Heap} {locs1 : List Loc} {ls1 : Array Slot} {st1 : List Value}, sg_run code (fun _ _ => none) bud cbud dflt kind (fun _ _ _ => none) stop n false pc2 L2 S2 G2 = some o → (∀ g ∈ o, g ∈ fs) → ai_ext G.1.1 r r' → ai_ext G.2.1.1 ad ad' → G.1.1 ≤ G2.1.1 → G.2.1.1 ≤ G2.2.1.1 → ai_Rel D tyc A s sa ws0 nL r' ad' L2 S2 G2 H1 locs1 ls1 st1 → W p l e R s m args below meth c H1 locs1 G2.2.2.1 G2.2.2.2 Q (F0 m pc2 ls1 st1) := fun {pc2 L2 S2 G2 o r' ad' H1 locs1 ls1 st1} e1 e2 x1 x2 x3 x4 hR1 =>
          ih false pc2 L2 S2 G2 o r' ad' H1 locs1 ls1 st1 e1 hR1 (fun f hf r2 ad2 y1 y2 y3 y4 H2 locs2 ls2 st2 hR2 => kk f (e2 f hf) r2 ad2 (x1.trans y1 x3) (x2.trans y2 x4) (Nat.le_trans x3 y3) (Nat.le_trans x4 y4) H2 locs2 ls2 st2 hR2)
        split at h
        · cases h
        · rename_i fs1 es
          refine ai_step_ok F hini d2 d3 d1 es hR (fun f hf => ?_)
          obtain ⟨o, e1, e2⟩ := sg_many_ok h f hf
          intro r' ad' x1 x2 x3 x4 H1 locs1 ls1 st1 hR1
          exact next e1 e2 x1 x2 x3 x4 hR1
        · rename_i mi aa S' pc' es
          obtain ⟨E, hh, cs, sl⟩ := G
          dsimp only at h
          cases eb : cbud mi with
          | mk bc bs =>
          rw [eb] at h
          dsimp only at h
          split at h
          · rename_i eb1 eb2
            have eb1 := Nat.le_of_ble_eq_true eb1
            have eb2 := Nat.le_of_ble_eq_true eb2
            cases h
          · cases h
        · cases h
end SG0
noncomputable def lz_chk0 (mi : Nat) (stop : List Nat) (skip : Bool) (pc : Nat) (L S : List ai_V) (G : ai_G) (chk : ai_F → Bool) : Bool := match sg_run (ls_code mi) (fun _ _ => none) (ct_bud mi) ct_bud ct_dflt ct_kind (fun _ _ _ => none) (fun q => stop.elem q) 10000 skip pc L S G with
  | some fs => fs.all chk
  | none => false
section LH0
variable {p : Program} {l : Launch} {e : Env} {s : State} {m : MethodId} {args : Array Value} {below : List Frame} {meth : Method} {c : Code} {Q : State → Prop}
variable {D : va_G} {tyc : Nat → ClassId} {A : Nat → Prop} {sa : ai_B} {ws0 : va_W} {mi n : Nat} {ad0 : Nat → Nat} {Y : pt_Y}
variable {stop : List Nat} {skip : Bool} {pc : Nat} {L S : List ai_V} {G : ai_G} {r : Nat → Int} {ad : Nat → Nat} {H : Heap} {locs : List Loc} {ls : Array Slot} {st : List Value} {k : Nat × Nat × Nat} {M : Nat → Nat → Int}
theorem lh_ok0 {chk : ai_F → Bool} (hpl : lh_plain mi = true) (F : ls_Fr p (lt_rm (n + 1) mi) s m args meth c D tyc A sa mi)
    (h : lz_chk0 mi stop skip pc L S G chk = true) (hR : ai_Rel D tyc A s sa ws0 (ct_mt mi).2.2.1 r ad L S G H locs ls st)
    (k : ∀ f, chk f = true → ls_K p l e (lt_rm (n + 1) mi) s m args below meth c Q D tyc A sa ws0 (ct_mt mi).2.2.1 r ad G f) :
    W p l e (lt_rm (n + 1) mi) s m args below meth c H locs G.2.2.1 G.2.2.2 Q (F0 m pc ls st) := by
  unfold lh_plain at hpl
  simp only [Bool.and_eq_true, Bool.not_eq_true'] at hpl
  obtain ⟨h1, h3⟩ := hpl
  obtain ⟨mok, htab⟩ := ls_known h1
  rw [h3] at htab
  unfold lz_chk0 at h
  split at h
  · rename_i fs hfs
    exact sg_ok0 F (fun q => by cases q) htab 10000 skip pc L S G fs r ad H locs ls st hfs hR (fun f hf => k f (List.all_eq_true.mp h f hf))
  · cases h
noncomputable def pt_row0 (Y : pt_Y) (mi : Nat) (stop : List Nat) (skip : Bool) (k : Nat × Nat × Nat) (L S : List ai_V) (sp : List (Nat × Int)) (cp : List (Nat × Int × Int)) (le : List (ai_X × ai_X)) (C : List Nat) (Es : List pt_E) : Bool := (cp.all (fun q => Nat.blt q.1 Y.1.1) && le.all (fun q => Nat.blt q.1.1 Y.1.1 && Nat.blt q.2.1 Y.1.1)) && lz_chk0 mi stop skip k.1 L S (pt_G Y.1 Y.2.1 k sp cp le) (pt_fs Y.1 Y.2.1 C Es)
noncomputable def pt_W0 (p : Program) (l : Launch) (e : Env) (s : State) (m : MethodId) (args : Array Value) (below : List Frame) (meth : Method) (c : Code) (Q : State → Prop) (D : va_G) (tyc : Nat → ClassId) (A : Nat → Prop) (sa : ai_B) (ws0 : va_W) (ad0 : Nat → Nat) (n mi : Nat) (Y : pt_Y) : pt_P := fun k L S r M =>
  ∀ (ws : va_W) (ad : Nat → Nat) (H : Heap) (locs : List Loc) (ls : Array Slot) (st : List Value), pt_gh Y.2.2.1 ws0 ws → pt_M tyc Y.2.2.1 ws M → ai_ext 336 ad0 ad → ai_Rel D tyc A s sa ws (ct_mt mi).2.2.1 r ad L S (Y.1, Y.2.1, k.2.1, k.2.2) H locs ls st → W p l e (lt_rm (n + 1) mi) s m args below meth c H locs k.2.1 k.2.2 Q (F0 m k.1 ls st)
theorem pt_seg_ok0 (hpl : lh_plain mi = true) (F : ls_Fr p (lt_rm (n + 1) mi) s m args meth c D tyc A sa mi) (hs : pt_sys Y) {stop : List Nat} {skip : Bool} {sp : List (Nat × Int)} {cp : List (Nat × Int × Int)} {le : List (ai_X × ai_X)} {C : List Nat} {Es : List pt_E}
    (hrow : pt_row0 Y mi stop skip k L S sp cp le C Es = true) (ha : pt_asm r sp cp le) (hk : pt_ks (pt_W0 p l e s m args below meth c Q D tyc A sa ws0 ad0 n mi Y) r M Es) :
    pt_W0 p l e s m args below meth c Q D tyc A sa ws0 ad0 n mi Y k L S r M := by
  intro ws ad H locs ls st hgh hM hx hR
  obtain ⟨hun, hwf⟩ := hs
  unfold pt_row0 at hrow
  simp only [Bool.and_eq_true] at hrow
  obtain ⟨⟨hcp, hle⟩, hck⟩ := hrow
  have hE0 : ai_gE r Y.1 := hR.env
  obtain ⟨R1, n1, n2, n3⟩ := pt_G_ok hwf hcp hle ha hR
  have res := lh_ok0 (l := l) (G := pt_G Y.1 Y.2.1 k sp cp le) (Q := Q) (e := e) (below := below) hpl F hck R1 (fun f hf r' ad' x1 x2 x3 x4 H' locs' ls' st' hR' => ?_)
  · rw [n3] at res
    exact res
  · rw [n1] at x1
    rw [n2] at x2
    unfold pt_fs at hf
    split at hf
    case h_2 => cases hf
    rename_i G eG
    obtain ⟨hRG, -⟩ := so_G_ok eG hR'
    obtain ⟨g, g1, g2⟩ := List.any_eq_true.mp hf
    unfold pt_f at g2
    simp only [Bool.and_eq_true] at g2
    obtain ⟨⟨e1, e2, e3⟩, e4, e5⟩ := g2
    split at e5
    · rename_i W eW
      have hE' : ai_gE r' G.1 := hRG.env
      have R2 := pt_re0 (c2 := g.1.2.1) (s2 := g.1.2.2) (E := G.1) (h := G.2.1) (c1 := G.2.2.1) (s1 := G.2.2.2) hun hwf hE0 x1 hRG e5
      have R3 := pt_val (r2 := pt_up r g.2.2.1) (c2 := g.1.2.1) (s2 := g.1.2.2) hun R2 (fun t ht => pt_ws_ok hE' x1 eW t ht)
      rw [Nat.eq_of_beq_eq_true e1, Nat.eq_of_beq_eq_true e2, Nat.eq_of_beq_eq_true e3]
      exact pt_ks_get hk g1 (pt_gs_of (fun x hx => pt_gc_ok hE' x1 (List.all_eq_true.mp e4 x hx))) ws ad' H' locs' ls' st' hgh hM (fun u hu => (x2 u hu).trans (hx u hu)) R3
    · cases e5
theorem pt_ld_ok0 (hpl : lh_plain mi = true) (F : ls_Fr p (lt_rm (n + 1) mi) s m args meth c D tyc A sa mi) (hs : pt_sys Y) {q nq z j : Nat} {i : ai_X} (hck : pt_lck Y mi k.1 1 q nq 0 z L S = true) (hj : j < nq) (hi : ai_vx r i = (j : Int))
    (hk : pt_W0 p l e s m args below meth c Q D tyc A sa ws0 ad0 n mi Y (k.1 + 1, k.2) L (.inl (z, 0) :: S) (pt_set r z (M q j)) M) :
    pt_W0 p l e s m args below meth c Q D tyc A sa ws0 ad0 n mi Y k L (.inl i :: .inr (.inr (some (some q))) :: S) r M := by
  intro ws ad H locs ls st hgh hM hx hR
  obtain ⟨hun, hwf⟩ := hs
  unfold pt_lck at hck
  simp only [Bool.and_eq_true, Option.isNone_iff_eq_none] at hck
  obtain ⟨⟨c1, c2⟩, ⟨⟨c3, c4⟩, c5, c6, c7⟩, c8, c9, c10⟩ := hck
  have c3 := Nat.le_of_ble_eq_true c3
  obtain ⟨m1, m2, m3⟩ := pt_gq_ok c2
  unfold lh_plain at hpl
  simp only [Bool.and_eq_true, Bool.not_eq_true'] at hpl
  obtain ⟨p1, p3⟩ := hpl
  obtain ⟨mok, htab⟩ := ls_known p1
  obtain ⟨ia, ib, ec⟩ := pt_is1 c1
  obtain ⟨hdg, -, -, -, -⟩ := htab _ _ _ _ _ ec
  obtain ⟨hx', hbb, -, -, -, hSt0, -⟩ := F
  have hE : ai_gE r Y.1 := hR.env
  obtain ⟨hWd, hS, hLL, hSt⟩ := hR.wd
  obtain ⟨ix, t1, rfl, hi1, hi2, h1⟩ := ai_gF.int hSt
  obtain ⟨t, rfl, hqn, h2⟩ := h1.ref
  obtain ⟨f, ⟨a, hw⟩, hf⟩ : ∃ f, hg_ia tyc ws q nq f ∧ ∀ j, j < nq → (f j).toInt = M q j := hM (q, nq, 0) m1
  obtain ⟨ws1, hP, hD, -, hH, -, -⟩ := hWd
  have hqn : q < Y.2.1.1 := hqn
  have hw2 : ws1[q - 16]? = some (a, .inl (tyc 0, nq, .inl f)) := by
    rw [hH.2.2.2 (q - 16) (by show q - 16 + 16 < Y.2.1.1; omega) (by rw [show q - 16 + 16 = q by omega]; exact c4)]
    exact hw
  have ha : a = ad q := by
    have := hH.2.1 _ _ hw2
    rw [show q - 16 + 16 = q by omega] at this
    exact this
  subst ha
  obtain ⟨hvp, hcl⟩ := ai_vpin (i := ix) (j := j) (n := nq) (by rw [hi2]; exact hi) hj
  refine va_iald hx' hbb hSt0.1 hP (q - 16) 0 hw2 rfl hvp hdg ?_
  rw [hcl]
  have hv := hf j hj
  have hE2 : ai_gE (pt_set r z (M q j)) Y.1 := pt_gEz (b := (ai_lo32, ai_hi32)) hun hE (Nat.le_of_ble_eq_true c5) c7 (by rw [← hv]; exact ai_i32 _) (by rw [← hv]; exact ai_small32 (ai_i32 _))
  have W2 := pt_wd (c2 := k.2.1) (s2 := k.2.2) hwf c8 (pt_sez (r := r) (v := M q j)) hE2 hR.wd.1
  exact hk ws ad H locs ls (.int (f j) :: t) hgh hM hx (W2.rel hS (pt_gL2 pt_sez c9 hLL) ⟨⟨Nat.le_of_ble_eq_true c6, f j, rfl, by
    show (f j).toInt = pt_set r z (M q j) z + 0
    have : pt_set r z (M q j) z = M q j := if_pos rfl
    rw [this, hv, Int.add_zero]⟩, pt_gF2 pt_sez c10 h2⟩)
theorem pt_st_ok0 (hpl : lh_plain mi = true) (F : ls_Fr p (lt_rm (n + 1) mi) s m args meth c D tyc A sa mi) {q nq j : Nat} {i v : ai_X} (hck : pt_tck Y mi k.1 q nq = true) (hj : j < nq) (hi : ai_vx r i = (j : Int))
    (hk : pt_W0 p l e s m args below meth c Q D tyc A sa ws0 ad0 n mi Y (k.1 + 1, k.2) L S r (pt_sto M q j (ai_vx r v))) :
    pt_W0 p l e s m args below meth c Q D tyc A sa ws0 ad0 n mi Y k L (.inl v :: .inl i :: .inr (.inr (some (some q))) :: S) r M := by
  intro ws ad H locs ls st hgh hM hx hR
  unfold pt_tck at hck
  simp only [Bool.and_eq_true, Option.isNone_iff_eq_none] at hck
  obtain ⟨⟨c1, c2⟩, c3, c4⟩ := hck
  have c3 := Nat.le_of_ble_eq_true c3
  obtain ⟨m1, m2, m3⟩ := pt_gq_ok c2
  unfold lh_plain at hpl
  simp only [Bool.and_eq_true, Bool.not_eq_true'] at hpl
  obtain ⟨p1, p3⟩ := hpl
  obtain ⟨mok, htab⟩ := ls_known p1
  obtain ⟨ia, ib, ec⟩ := pt_is2 c1
  obtain ⟨hdg, -, -, -, -⟩ := htab _ _ _ _ _ ec
  obtain ⟨f, hw, hf⟩ : ∃ f, hg_ia tyc ws q nq f ∧ ∀ j, j < nq → (f j).toInt = M q j := hM (q, nq, 0) m1
  refine hg_iast (G := (Y.1, Y.2.1, k.2.1, k.2.2)) F hdg hR c3 c4 hw hj hi (fun ws1 H1 locs1 st' f' g1 g2 g3 g4 hR' => ?_)
  exact hk ws1 ad H1 locs1 ls st' (pt_ghst c2 hgh g4) (pt_Mst c2 hM g4 ⟨f', g1, fun b hb => by
    show (f' b).toInt = if q = q ∧ b = j then ai_vx r v else M q b
    by_cases e : b = j
    · rw [if_pos ⟨rfl, e⟩, e, g2]
    · rw [if_neg (fun w => e w.2), g3 b e, hf b hb]⟩) hx hR'
end LH0
/-- the offers are in order, said of arrays left alone -/
noncomputable def gz_pw (M : Nat → Nat → Int) : Prop := ∀ m, m < 4 → (0 ≤ M 286 m ∧ M 286 m ≤ 8) ∧ ∀ k : Nat, (k : Int) < M 286 m → ∃ i j : Nat, M 288 (8 * m + k) = (i : Int) ∧ M 289 (8 * m + k) = (j : Int) ∧ i ≤ j ∧ j ≤ 400 ∧ pw_cv (fun q => M 290 (400 * m + q)) 400 i j 0
theorem pt_pw_of {tyc : Nat → ClassId} {Gh : List (Nat × Nat × Nat)} {ws : va_W} {M : Nat → Nat → Int} (h1 : (286, 5, 0) ∈ Gh) (h2 : (288, 40, 0) ∈ Gh) (h3 : (289, 40, 0) ∈ Gh) (h4 : (290, 2000, 0) ∈ Gh) (hM : pt_M tyc Gh ws M) (h : gz_pw M) (hx : ai_Px tyc ws) : ai_Pw tyc ws := by
  refine ⟨?_, hx⟩
  intro _
  obtain ⟨f1, a1, b1⟩ : ∃ f, hg_ia tyc ws 286 5 f ∧ ∀ j, j < 5 → (f j).toInt = M 286 j := hM _ h1
  obtain ⟨f2, a2, b2⟩ : ∃ f, hg_ia tyc ws 288 40 f ∧ ∀ j, j < 40 → (f j).toInt = M 288 j := hM _ h2
  obtain ⟨f3, a3, b3⟩ : ∃ f, hg_ia tyc ws 289 40 f ∧ ∀ j, j < 40 → (f j).toInt = M 289 j := hM _ h3
  obtain ⟨f4, a4, b4⟩ : ∃ f, hg_ia tyc ws 290 2000 f ∧ ∀ j, j < 2000 → (f j).toInt = M 290 j := hM _ h4
  refine ⟨f1, f2, f3, f4, a1, a2, a3, a4, fun m hm => ?_⟩
  obtain ⟨c1, c2⟩ := h m hm
  rw [b1 m (by omega)]
  refine ⟨c1, fun k hk => ?_⟩
  obtain ⟨i, j, d1, d2, d3, d4, d5⟩ := c2 k hk
  refine ⟨i, j, ?_, ?_, d3, d4, pw_cg (fun q hq => ?_) d5⟩
  · rw [b2 _ (by omega)]
    exact d1
  · rw [b3 _ (by omega)]
    exact d2
  · exact b4 _ (by omega)
/-- what stands outside a method's arrays stands there still; its own are arrays -/
noncomputable def pt_xk (Gh : List (Nat × Nat × Nat)) : Bool := ai_xs.all (fun p => Gh.any (fun z => decide (z = (p.1 + 16, p.2, 0))) || Gh.all (fun z => !(Nat.beq z.1 (p.1 + 16))))
theorem pt_px_gh {tyc : Nat → ClassId} {Gh : List (Nat × Nat × Nat)} {ws0 ws : va_W} {M : Nat → Nat → Int} (h : ai_Px tyc ws0) (hgh : pt_gh Gh ws0 ws) (hM : pt_M tyc Gh ws M) (hk : pt_xk Gh = true) : ai_Px tyc ws := fun p hp hne => by
  have g := List.all_eq_true.mp hk p hp
  rw [Bool.or_eq_true] at g
  rcases g with g | g
  · obtain ⟨z, hz, e⟩ := List.any_eq_true.mp g
    have e := of_decide_eq_true e
    subst e
    obtain ⟨f, ⟨a, ha⟩, -⟩ : ∃ f, hg_ia tyc ws (p.1 + 16) p.2 f ∧ ∀ j, j < p.2 → (f j).toInt = M (p.1 + 16) j := hM _ hz
    exact ⟨f, a, by rw [Nat.add_sub_cancel] at ha; exact ha⟩
  · have e : ws[p.1]? = ws0[p.1]? := hgh p.1 (fun z hz q => by
      have w := List.all_eq_true.mp g z hz
      rw [Bool.not_eq_true'] at w
      exact Nat.ne_of_beq_eq_false w q)
    obtain ⟨f, a, k⟩ := h p hp (by rw [← e]; exact hne)
    exact ⟨f, a, e.trans k⟩
/-- all of them are a system's own -/
theorem pt_px_of {tyc : Nat → ClassId} {Gh : List (Nat × Nat × Nat)} {ws : va_W} {M : Nat → Nat → Int} (hM : pt_M tyc Gh ws M) (hk : ai_xs.all (fun p => Gh.any (fun z => decide (z = (p.1 + 16, p.2, 0)))) = true) : ai_Px tyc ws := fun p hp _ => by
  obtain ⟨z, hz, e⟩ := List.any_eq_true.mp (List.all_eq_true.mp hk p hp)
  have e := of_decide_eq_true e
  subst e
  obtain ⟨f, ⟨a, ha⟩, -⟩ : ∃ f, hg_ia tyc ws (p.1 + 16) p.2 f ∧ ∀ j, j < p.2 → (f j).toInt = M (p.1 + 16) j := hM _ hz
  exact ⟨f, a, by rw [Nat.add_sub_cancel] at ha; exact ha⟩
