/-! THE LAW: its runs; what it reads of the script are ints, the same place twice is one -/
noncomputable def lx_code (pc : Nat) : Option (ClassFile.Instr × Nat × Nat × Nat) := (fr_code 7 ct_286 pc).map fr_un
noncomputable def lx_B : Nat × Nat := (1, 6)
noncomputable def lx_isr (pc : Nat) : Bool := match lx_code pc with
  | some (i, len, _, _) => Nat.beq (fn_knd i).1 4 && Nat.beq len 1
  | none => false
noncomputable def lw_cal (T : List (Nat × us_C)) : Nat → List ai_V → ai_G → ai_Q := lt_call T (lf_meth (fun m => ct_meth (fun _ _ => none) m) T 10000 5)
theorem lw_cal_ok {l : Launch} {D : va_G} {tyc : Nat → ClassId} {A : Nat → Prop} {sa : ai_B} (hl : l.stackTraces = false) {T : List (Nat × us_C)} {k : Nat} (hT : lt_all k T) {mi : Nat} {aa : List ai_V} {G : ai_G} {o : List (ai_R × ai_G)} (h : lw_cal T mi aa G = some o) : ai_mok ft_W (ct_mt mi) ∧ ai_Ct l D tyc A sa ct_strs ft_N ft_W (ct_mt mi) (lt_rm (k + 5) mi) aa G o := by
  have hprog := ct_hprog (mk := fun _ _ => none) (fun _ => rfl)
  have e : lf_meth (fun m => ct_meth (fun _ _ => none) m) T 10000 5 = lt_meth (fun m => (ct_meth (fun _ _ => none) m).map fr_unM) T 10000 5 := by
    funext a b c
    exact lf_meth_eq (fun mi q hq => ct_hnx mi q hq) 5 a b c
  unfold lw_cal at h
  rw [e] at h
  exact lt_call_ok (d := 5) hl hT (fun mi {_ _ _} q => ⟨lt_mok hprog q, lt_meth_ok hl hT hprog 5 mi _ _ _ q⟩) h
noncomputable def lx_sg (T : List (Nat × us_C)) (stop : Nat → Bool) (skip : Bool) (pc : Nat) (L S : List ai_V) (G : ai_G) : Option (List ai_F) := fs_run (fr_code 7 ct_286) (fun _ _ => none) lx_B ct_bud ct_dflt ct_kind (lw_cal T) stop 10000 skip pc L S G
theorem lx_sg_eq {T : List (Nat × us_C)} {stop : Nat → Bool} {skip : Bool} {pc : Nat} {L S : List ai_V} {G : ai_G} : lx_sg T stop skip pc L S G = sg_run lx_code (fun _ _ => none) lx_B ct_bud ct_dflt ct_kind (lw_cal T) stop 10000 skip pc L S G := fs_run_eq (ft_T.nx ck_286) 10000 skip pc L S G
noncomputable def lx_read (S : List ai_V) : Option (Int × List ai_V) := match S with
  | .inl x :: .inr (.inr (some (some q))) :: S' => match Nat.beq q 0 && (Nat.beq x.1 1 && (ai_le 0 x.2 && ai_le x.2 9)) with
    | true => some (x.2, S')
    | false => none
  | _ => none
noncomputable def lx_ald : List Nat := [36, 207, 213, 219, 225, 238, 244, 250, 256, 271, 277, 283, 289, 295, 302, 309, 316, 323, 336, 342, 348, 354, 360, 367, 374, 381, 388, 403, 409, 420, 426, 440, 446, 452, 465, 471, 477, 492, 498, 504, 510, 516, 529, 535, 541, 547, 553, 568, 574, 580, 586, 599, 605, 611, 617, 632, 638, 644, 650, 656, 667, 673, 679, 685, 691, 705, 711, 724, 730, 758, 764, 770, 783, 789, 795, 838, 852, 858, 869, 883, 889, 903, 909, 915, 921, 934, 940, 946, 952, 967, 973, 979, 992, 998, 1004, 1019, 1032, 1047, 1053, 1066, 1072, 1087, 1093, 1106, 1112, 1127, 1133, 1146, 1152, 1167, 1173, 1186, 1192, 1207, 1220, 1235, 1241, 1254, 1260, 1275, 1281, 1294, 1300, 1315, 1321, 1327, 1333, 1346, 1352, 1358, 1364, 1379, 1385, 1398, 1404, 1419, 1432, 1447, 1460, 1475, 1481, 1495, 1508, 1514, 1528, 1543, 1556, 1571, 1584, 1599, 1612, 1627, 1633, 1639, 1652, 1658, 1664, 1679, 1685, 1698, 1704, 1719, 1732]
/-- the places of reads, as bits -/
noncomputable def lx_bits : Nat := 242105972345869726213287623086083939375792905679681737138496207506052582985248420742946608203586479659089139460473635901451682602918468846544866615811167455938217017141061019225260774209076141375777908307943855761107513879063012028831242301281868274552555375227831910437838726607384609517844841675559451308980849769215825147284698219416058658565512376907346203498264356737283617783994258551554187326867672687092074316319391912568367533182216633778088632831921457773466899086298531645095252327403844440153190835406621376512
noncomputable def lx_stop (stop : List Nat) (pc : Nat) : Bool := Bool.rec (motive := fun _ => Bool) (List.rec (motive := fun _ => Bool) false (fun a _ ih => Bool.rec (motive := fun _ => Bool) ih true (Nat.beq a pc)) stop) true (Nat.beq (Nat.land (Nat.shiftRight lx_bits pc) 1) 1)
noncomputable def lx_run (T : List (Nat × us_C)) (stop : List Nat) : Nat → List (Int × ai_X) → Bool → Nat → List ai_V → List ai_V → ai_G → Option (List ai_F)
  | 0, _, _, _, _, _, _ => none
  | n + 1, rd, skip, pc, L, S, G => match lx_sg T (lx_stop stop) skip pc L S G with
    | none => none
    | some fs => sg_many (fun f => match stop.elem f.1 with
      | true => some [f]
      | false => match lx_isr f.1 with
        | false => none
        | true => match lx_read f.2.2.1 with
          | none => none
          | some (k, S') => match rd.find? (fun q => ai_eq q.1 k && Nat.blt q.2.1 f.2.2.2.1.1) with
            | some q => lx_run T stop n rd false (f.1 + 1) f.2.1 (.inl q.2 :: S') f.2.2.2
            | none => lx_run T stop n ((k, (f.2.2.2.1.1, 0)) :: rd) false (f.1 + 1) f.2.1 (.inl (f.2.2.2.1.1, 0) :: S') (hg_new f.2.2.2 (ai_lo32, ai_hi32))) fs
theorem lx_isr_ok {pc : Nat} (h : lx_isr pc = true) : decode code pc = .ok (.iaload, 1) := by
  unfold lx_isr at h
  split at h
  · rename_i i len a b ec
    rw [Bool.and_eq_true] at h
    have h1 := fn_knd4 (Nat.eq_of_beq_eq_true h.1)
    have h2 := Nat.eq_of_beq_eq_true h.2
    subst h1 h2
    exact (ck_286.tab pc _ _ _ _ ec).1
  · cases h
theorem lx_read_ok {S : List ai_V} {k : Int} {S' : List ai_V} (h : lx_read S = some (k, S')) : S = .inl (1, k) :: .inr (.inr (some (some 0))) :: S' ∧ 0 ≤ k ∧ k ≤ 9 := by
  unfold lx_read at h
  split at h
  · rename_i x q S0
    split at h
    · rename_i e
      cases h
      simp only [Bool.and_eq_true] at e
      obtain ⟨e1, e2, e3, e4⟩ := e
      have e1 := Nat.eq_of_beq_eq_true e1
      have e2 := Nat.eq_of_beq_eq_true e2
      obtain ⟨t, k⟩ := x
      have e2 : t = 1 := e2
      subst e1 e2
      exact ⟨rfl, ai_le_iff.mp e3, ai_le_iff.mp e4⟩
    · cases h
  · cases h
section LWR
variable {p : Program} {l : Launch} {e : Env} {R : Room} {s : State} {m : MethodId} {args : Array Value} {below : List Frame} {meth : Method} {c : Code} {Q : State → Prop}
variable {D : va_G} {tyc : Nat → ClassId} {A : Nat → Prop} {sa : ai_B} {ws0 : va_W} {nL : Nat} {cc : ByteArray} {own : String} {Ts : List Cond} {strs : List ai_Z} {nws : List Cond} {bud : Nat × Nat} {dflt : Nat → List ai_V} {kind : Nat → Nat → Nat}
variable {r : Nat → Int} {ad : Nat → Nat} {L S : List ai_V} {G : ai_G} {H : Heap} {locs : List Loc} {ls : Array Slot} {st : List Value} {pc b Ln z0 : Nat} {xs : Nat → Int32}
/-- a read of the script, its number known -/
theorem lx_sld (F : ai_Fr p R s m args meth c D tyc A sa nL cc own Ts strs nws bud dflt kind) (hdg : decode cc pc = .ok (.iaload, 1)) {i y : ai_X} {j : Nat} (hsa : (z0, b, Ln, xs) ∈ sa.2) (had : ad 0 = b) (hR : ai_Rel D tyc A s sa ws0 nL r ad L (.inl i :: .inr (.inr (some (some 0))) :: S) G H locs ls st)
    (hj : j < Ln) (hi : ai_vx r i = (j : Int)) (hy : y.1 < G.1.1) (hv : ai_vx r y = (xs j).toInt)
    (k : ∀ st' : List Value, ai_Rel D tyc A s sa ws0 nL r ad L (.inl y :: S) G H locs ls st' → W p l e R s m args below meth c H locs G.2.2.1 G.2.2.2 Q (F0 m (pc + 1) ls st')) :
    W p l e R s m args below meth c H locs G.2.2.1 G.2.2.2 Q (F0 m pc ls st) := by
  obtain ⟨hx, hbb, -, -, -, hSt0, -⟩ := F
  have hR0 := hR
  obtain ⟨ws, hP, hD, hS, hE, hH, hO, hsa', hL, hSt⟩ := hR
  obtain ⟨ix, t1, rfl, hi1, hi2, h1⟩ := ai_gF.int hSt
  obtain ⟨t, rfl, hq, h2⟩ := h1.ref
  obtain ⟨hvp, hcl⟩ := ai_vpin (i := ix) (j := j) (n := Ln) (by rw [hi2]; exact hi) hj
  obtain ⟨hX, hl1, hl2⟩ := hSt0.2.2.2.2.2.1 _ hsa
  rw [had]
  refine va_sld hx hbb hX hl1 hl2 hS hvp hdg ?_
  rw [hcl]
  exact k _ (hR0.st' ⟨⟨hy, _, rfl, hv.symm⟩, h2⟩)
/-- a read of the script, a number of its own -/
theorem lx_sln (F : ai_Fr p R s m args meth c D tyc A sa nL cc own Ts strs nws bud dflt kind) (hdg : decode cc pc = .ok (.iaload, 1)) {i : ai_X} {j : Nat} (hsa : (z0, b, Ln, xs) ∈ sa.2) (had : ad 0 = b) (hR : ai_Rel D tyc A s sa ws0 nL r ad L (.inl i :: .inr (.inr (some (some 0))) :: S) G H locs ls st)
    (hj : j < Ln) (hi : ai_vx r i = (j : Int))
    (k : ∀ (r' : Nat → Int) (st' : List Value), ai_ext G.1.1 r r' → r' G.1.1 = (xs j).toInt → ai_Rel D tyc A s sa ws0 nL r' ad L (.inl (G.1.1, 0) :: S) (hg_new G (ai_lo32, ai_hi32)) H locs ls st' → W p l e R s m args below meth c H locs G.2.2.1 G.2.2.2 Q (F0 m (pc + 1) ls st')) :
    W p l e R s m args below meth c H locs G.2.2.1 G.2.2.2 Q (F0 m pc ls st) := by
  obtain ⟨hx, hbb, -, -, -, hSt0, -⟩ := F
  have hR0 := hR
  obtain ⟨ws, hP, hD, hS, hE, hH, hO, hsa', hL, hSt⟩ := hR
  obtain ⟨ix, t1, rfl, hi1, hi2, h1⟩ := ai_gF.int hSt
  obtain ⟨t, rfl, hq, h2⟩ := h1.ref
  obtain ⟨hvp, hcl⟩ := ai_vpin (i := ix) (j := j) (n := Ln) (by rw [hi2]; exact hi) hj
  obtain ⟨hX, hl1, hl2⟩ := hSt0.2.2.2.2.2.1 _ hsa
  cases en : ai_new G.1 (ai_lo32, ai_hi32) with
  | mk z E' =>
    obtain ⟨r', g1, g2, g3, g4, g5⟩ := ai_new_ok hE (ai_i32 (xs j)) (ai_small32 (ai_i32 _)) en
    have ez : z = (G.1.1, 0) ∧ E'.1 = G.1.1 + 1 := by
      obtain ⟨⟨N, lb, ds⟩, G2⟩ := G
      cases en
      exact ⟨rfl, rfl⟩
    obtain ⟨rfl, hE1⟩ := ez
    rw [had]
    refine va_sld hx hbb hX hl1 hl2 hS hvp hdg ?_
    rw [hcl]
    have e0 : r' G.1.1 = (xs j).toInt := by
      have : r' G.1.1 + 0 = (xs j).toInt := g5
      omega
    refine k r' _ g1 e0 ?_
    have := hR0.re (E' := E') (r' := r') (S' := .inl (G.1.1, 0) :: S) (st' := .int (xs j) :: t) g1 g2 g3 ⟨⟨by rw [hE1]; exact Nat.lt_succ_self _, _, rfl, g5.symm⟩, h2.mono g1 ai_ext.rfl' g2 (Nat.le_refl _)⟩
    unfold hg_new
    rw [en]
    exact this
end LWR
section LWG
variable {p : Program} {l : Launch} {e : Env} {R : Room} {s : State} {m : MethodId} {args : Array Value} {below : List Frame} {meth : Method} {c : Code} {Q : State → Prop}
variable {D : va_G} {tyc : Nat → ClassId} {A : Nat → Prop} {sa : ai_B} {ws0 : va_W} {b Ln z0 k0 : Nat} {xs : Nat → Int32} {T : List (Nat × us_C)} {stop : List Nat}
abbrev lx_Fr (p : Program) (R : Room) (s : State) (m : MethodId) (args : Array Value) (meth : Method) (c : Code) (D : va_G) (tyc : Nat → ClassId) (A : Nat → Prop) (sa : ai_B) : Prop := ai_Fr p R s m args meth c D tyc A sa 7 code "LightsMarketLaw" ft_W ct_strs ft_N lx_B ct_dflt ct_kind
set_option maxHeartbeats 2000000 in
theorem lx_ok (F : lx_Fr p R s m args meth c D tyc A sa) (hl : l.stackTraces = false) (hT : lt_all k0 T) (hRf : k0 + 14 ≤ R.frames) (hRl : 64 * (k0 + 5) + 464 ≤ R.locals) (hPw : ai_Pw tyc ws0) (hsa : (z0, b, Ln, xs) ∈ sa.2) :
    ∀ (n : Nat) (rd : List (Int × ai_X)) (skip : Bool) (pc : Nat) (L S : List ai_V) (G : ai_G) (fs : List ai_F) (r : Nat → Int) (ad : Nat → Nat) (H : Heap) (locs : List Loc) (ls : Array Slot) (st : List Value),
    lx_run T stop n rd skip pc L S G = some fs → ai_Rel D tyc A s sa ws0 7 r ad L S G H locs ls st → 1 < G.1.1 → 0 < G.2.1.1 → (0 ≤ r 1 ∧ r 1 + 10 ≤ (Ln : Int)) → ad 0 = b → (∀ q ∈ rd, ai_vx r q.2 = (xs (r 1 + q.1).toNat).toInt) → (∀ q ∈ rd, q.2.1 < G.1.1) →
    (∀ f ∈ fs, ∀ (r' : Nat → Int) (ad' : Nat → Nat), ai_ext G.1.1 r r' → ai_ext G.2.1.1 ad ad' → G.1.1 ≤ f.2.2.2.1.1 → G.2.1.1 ≤ f.2.2.2.2.1.1 → ∀ (H' : Heap) (locs' : List Loc) (ls' : Array Slot) (st' : List Value), ai_Rel D tyc A s sa ws0 7 r' ad' f.2.1 f.2.2.1 f.2.2.2 H' locs' ls' st' → W p l e R s m args below meth c H' locs' f.2.2.2.2.2.1 f.2.2.2.2.2.2 Q (F0 m f.1 ls' st')) →
    W p l e R s m args below meth c H locs G.2.2.1 G.2.2.2 Q (F0 m pc ls st) := by
  have hgood : ∀ w ∈ ft_W, goodWord w = true := fun w hw => (List.mem_filter.mp hw).2
  have hnk : ∀ w ∈ ft_N, ai_nk w = true := fun w hw => (List.mem_filter.mp hw).2
  intro n
  induction n with
  | zero => intro rd skip pc L S G fs r ad H locs ls st h; cases h
  | succ n ih =>
    intro rd skip pc L S G fs r ad H locs ls st h hR h1G h0G hi had hrd hrl kk
    unfold lx_run at h
    split at h
    · cases h
    · rename_i fs1 hsg
      refine sg_ok (ini := false) (ret := some .boolean) (tb := [(0, 0, 0, 0)]) (mt := ct_mt) (rm := lt_rm (k0 + 5)) F hgood hnk (fun q => by cases q) ck_286.tab (fun mj aa G o ho => (lw_cal_ok (l := l) (D := D) (tyc := tyc) (A := A) (sa := sa) hl hT ho).1) (fun pc z k pcn q => by cases q) (fun mj => ⟨by show k0 + 5 + 0 + 8 + 1 ≤ R.frames; omega, by show 64 * (k0 + 5 + 0) + 400 + 64 ≤ R.locals; omega, rfl, rfl⟩) (fun mj aa G o ho => (lw_cal_ok hl hT ho).2) hPw 10000 skip pc L S G fs1 r ad H locs ls st (lx_sg_eq.symm.trans hsg) hR (fun f hf r' ad' x1 x2 x3 x4 H' locs' ls' st' hR' => ?_)
      obtain ⟨o, e1, e2⟩ := sg_many_ok h f hf
      have g1 : r' 1 = r 1 := x1 1 h1G
      have had' : ad' 0 = b := (x2 0 h0G).trans had
      split at e1
      · cases e1
        exact kk f (e2 f List.mem_cons_self) r' ad' x1 x2 x3 x4 H' locs' ls' st' hR'
      · split at e1
        · cases e1
        · rename_i hisr
          split at e1
          · cases e1
          · rename_i k S' hrd'
            obtain ⟨eS, k1, k2⟩ := lx_read_ok hrd'
            rw [eS] at hR'
            have hd := lx_isr_ok hisr
            have hj : (r 1 + k).toNat < Ln := by omega
            have hix : ai_vx r' (1, k) = (((r 1 + k).toNat : Nat) : Int) := by
              show r' 1 + k = _
              rw [g1]
              omega
            have hrd2 : ∀ q ∈ rd, ai_vx r' q.2 = (xs (r' 1 + q.1).toNat).toInt := fun q hq => by
              rw [g1, x1.vx (hrl q hq)]
              exact hrd q hq
            split at e1
            · rename_i q hq
              have hqm := List.mem_of_find?_eq_some hq
              have hqp := List.find?_some hq
              rw [Bool.and_eq_true] at hqp
              have hqk := ai_eq_iff.mp hqp.1
              have hql : q.2.1 < f.2.2.2.1.1 := Nat.le_of_ble_eq_true hqp.2
              refine lx_sld (G := f.2.2.2) F hd hsa had' hR' hj hix hql (by rw [hrd2 q hqm, g1, hqk]) (fun st2 hR2 => ?_)
              refine ih rd false (f.1 + 1) f.2.1 _ f.2.2.2 o r' ad' H' locs' ls' st2 e1 hR2 (Nat.lt_of_lt_of_le h1G x3) (Nat.lt_of_lt_of_le h0G x4) (by rw [g1]; exact hi) had' hrd2 (fun z hz => Nat.lt_of_lt_of_le (hrl z hz) x3) (fun g hg r2 ad2 y1 y2 y3 y4 H3 locs3 ls3 st3 hR3 => ?_)
              exact kk g (e2 g hg) r2 ad2 (x1.trans y1 x3) (x2.trans y2 x4) (Nat.le_trans x3 y3) (Nat.le_trans x4 y4) H3 locs3 ls3 st3 hR3
            · refine lx_sln (G := f.2.2.2) F hd hsa had' hR' hj hix (fun r2 st2 z1 z2 hR2 => ?_)
              have hN : (hg_new f.2.2.2 (ai_lo32, ai_hi32)).1.1 = f.2.2.2.1.1 + 1 := by
                obtain ⟨pc0, L0, S0, ⟨N, lb, ds⟩, G2⟩ := f
                rfl
              have g2 : r2 1 = r 1 := (z1 1 (Nat.lt_of_lt_of_le h1G x3)).trans g1
              refine ih ((k, (f.2.2.2.1.1, 0)) :: rd) false (f.1 + 1) f.2.1 _ (hg_new f.2.2.2 (ai_lo32, ai_hi32)) o r2 ad' H' locs' ls' st2 e1 hR2 (by rw [hN]; omega) (Nat.lt_of_lt_of_le h0G x4) (by rw [g2]; exact hi) had' (fun q hq => ?_) (fun q hq => ?_) (fun g hg r3 ad3 y1 y2 y3 y4 H3 locs3 ls3 st3 hR3 => ?_)
              · rcases List.mem_cons.mp hq with rfl | hq
                · show r2 f.2.2.2.1.1 + 0 = _
                  rw [z2, g2, Int.add_zero]
                · rw [g2, z1.vx (Nat.lt_of_lt_of_le (hrl q hq) x3), ← g1]
                  exact hrd2 q hq
              · rcases List.mem_cons.mp hq with rfl | hq
                · rw [hN]
                  exact Nat.lt_succ_self _
                · rw [hN]
                  exact Nat.lt_succ_of_lt (Nat.lt_of_lt_of_le (hrl q hq) x3)
              · rw [hN] at y1 y3
                exact kk g (e2 g hg) r3 ad3 (fun t ht => (y1 t (by omega)).trans ((z1 t (by omega)).trans (x1 t ht))) (x2.trans y2 x4) (by omega) (Nat.le_trans x4 y4) H3 locs3 ls3 st3 hR3
end LWG
