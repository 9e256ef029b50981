/-! THE LAW: its loop (3) -/
theorem lx_sg4 : lx_seg 4 = true := by decide +kernel
theorem lx_segs : ∀ v, v < 5 → lx_seg v = true := fun v hv => match v, hv with
  | 0, _ => lx_sg0
  | 1, _ => lx_sg1
  | 2, _ => lx_sg2
  | 3, _ => lx_sg3
  | 4, _ => lx_sg4
  | n + 5, h => absurd h (by omega)
theorem lx_dc : decode code 26 = .ok (.arraylength, 1) ∧ decode code 30 = .ok (.if_icmp .gt 1717, 3) ∧ decode code 1748 = .ok (.ireturn, 1) := by decide +kernel
theorem lx_newN (G : ai_G) (q : Int × Int) : (hg_new G q).1.1 = G.1.1 + 1 := by
  obtain ⟨⟨N, lb, ds⟩, G2⟩ := G
  rfl
theorem lx_kk (w : Nat) (hw : w < 33) (h2 : w ≠ 2) (h8 : w ≠ 8) (hg0 : w ≠ 0) (hg3 : w ≠ 3) (hg4 : w ≠ 4) (hg5 : w ≠ 5) (hg6 : w ≠ 6) (hg7 : w ≠ 7) (hg10 : w ≠ 10) : ∀ v, v < 5 → lx_KV w v := match w, hw, h2, h8, hg0, hg3, hg4, hg5, hg6, hg7, hg10 with
  | 0, _, _, _, h, _, _, _, _, _, _ => absurd rfl h
  | 1, _, _, _, _, _, _, _, _, _, _ => fun _ _ => Or.inr lx_u1
  | 3, _, _, _, _, h, _, _, _, _, _ => absurd rfl h
  | 4, _, _, _, _, _, h, _, _, _, _ => absurd rfl h
  | 5, _, _, _, _, _, _, h, _, _, _ => absurd rfl h
  | 6, _, _, _, _, _, _, _, h, _, _ => absurd rfl h
  | 7, _, _, _, _, _, _, _, _, h, _ => absurd rfl h
  | 9, _, _, _, _, _, _, _, _, _, _ => fun _ _ => Or.inr lx_u9
  | 10, _, _, _, _, _, _, _, _, _, h => absurd rfl h
  | 11, _, _, _, _, _, _, _, _, _, _ => fun _ _ => Or.inr lx_u11
  | 12, _, _, _, _, _, _, _, _, _, _ => fun _ _ => Or.inr lx_u12
  | 13, _, _, _, _, _, _, _, _, _, _ => fun v hv => Or.inl (lx_k13 v hv)
  | 14, _, _, _, _, _, _, _, _, _, _ => fun _ _ => Or.inr lx_u14
  | 15, _, _, _, _, _, _, _, _, _, _ => fun v hv => Or.inl (lx_k15 v hv)
  | 16, _, _, _, _, _, _, _, _, _, _ => fun _ _ => Or.inr lx_u16
  | 17, _, _, _, _, _, _, _, _, _, _ => fun _ _ => Or.inr lx_u17
  | 18, _, _, _, _, _, _, _, _, _, _ => fun _ _ => Or.inr lx_u18
  | 19, _, _, _, _, _, _, _, _, _, _ => fun v hv => Or.inl (lx_k19 v hv)
  | 20, _, _, _, _, _, _, _, _, _, _ => fun _ _ => Or.inr lx_u20
  | 21, _, _, _, _, _, _, _, _, _, _ => fun v hv => Or.inl (lx_k21 v hv)
  | 22, _, _, _, _, _, _, _, _, _, _ => fun _ _ => Or.inr lx_u22
  | 23, _, _, _, _, _, _, _, _, _, _ => fun _ _ => Or.inr lx_u23
  | 24, _, _, _, _, _, _, _, _, _, _ => fun _ _ => Or.inr lx_u24
  | 25, _, _, _, _, _, _, _, _, _, _ => fun _ _ => Or.inr lx_u25
  | 26, _, _, _, _, _, _, _, _, _, _ => fun _ _ => Or.inr lx_u26
  | 27, _, _, _, _, _, _, _, _, _, _ => fun _ _ => Or.inr lx_u27
  | 28, _, _, _, _, _, _, _, _, _, _ => fun _ _ => Or.inr lx_u28
  | 29, _, _, _, _, _, _, _, _, _, _ => fun _ _ => Or.inr lx_u29
  | 30, _, _, _, _, _, _, _, _, _, _ => fun _ _ => Or.inr lx_u30
  | 31, _, _, _, _, _, _, _, _, _, _ => fun _ _ => Or.inr lx_u31
  | 32, _, _, _, _, _, _, _, _, _, _ => fun _ _ => Or.inr lx_u32
  | 2, _, h, _, _, _, _, _, _, _, _ => absurd rfl h
  | 8, _, _, h, _, _, _, _, _, _, _ => absurd rfl h
  | n + 33, h, _, _, _, _, _, _, _, _, _ => absurd h (by omega)
section LLP
variable {p : Program} {l : Launch} {e : Env} {R : Room} {s : State} {m : MethodId} {args : Array Value} {below : List Frame} {meth : Method} {c : Code} {Q : State → Prop}
variable {D : va_G} {tyc : Nat → ClassId} {A : Nat → Prop} {sa : ai_B} {ws : va_W} {b Ln z0 w v k : Nat} {xs : Nat → Int32}
variable {r : Nat → Int} {ad : Nat → Nat} {H : Heap} {locs : List Loc} {ls : Array Slot} {st : List Value}
/-- the script's length, a number of its own -/
theorem lx_len {nL : Nat} {cc : ByteArray} {own : String} {Ts : List Cond} {strs : List ai_Z} {nws : List Cond} {bud : Nat × Nat} {dflt : Nat → List ai_V} {kind : Nat → Nat → Nat} {L S : List ai_V} {G : ai_G} {pc : Nat} (F : ai_Fr p R s m args meth c D tyc A sa nL cc own Ts strs nws bud dflt kind) (hdg : decode cc pc = .ok (.arraylength, 1)) (hsa : (z0, b, Ln, xs) ∈ sa.2) (had : ad 0 = b) (hLn : Ln ≤ 5120) (hR : ai_Rel D tyc A s sa ws nL r ad L (.inr (.inr (some (some 0))) :: S) G H locs ls st)
    (k : ∀ (r' : Nat → Int) (st' : List Value), ai_ext G.1.1 r r' → r' G.1.1 = (Ln : Int) → ai_Rel D tyc A s sa ws nL r' ad L (.inl (G.1.1, 0) :: S) (hg_new G (0, 5120)) H locs ls st' → W p l e R s m args below meth c H locs G.2.2.1 G.2.2.2 Q (F0 m (pc + 1) ls st')) :
    W p l e R s m args below meth c H locs G.2.2.1 G.2.2.2 Q (F0 m pc ls st) := by
  obtain ⟨hx, hbb, -, -, -, hSt0, -⟩ := F
  have hR0 := hR
  obtain ⟨ws, hP, hD, hS, hE, hH, hO, hsa', hL, hSt⟩ := hR
  obtain ⟨t, rfl, hq, h2⟩ := ai_gF.ref hSt
  obtain ⟨hX, hl1, hl2⟩ := hSt0.2.2.2.2.2.1 _ hsa
  have hv : (Int32.ofNat Ln).toInt = (Ln : Int) := nI_toInt (n := Ln) (by omega)
  cases en : ai_new G.1 (0, 5120) with
  | mk z E' =>
    have hs32 := ai_i32 (Int32.ofNat Ln)
    rw [hv] at hs32
    obtain ⟨r', g1, g2, g3, g4, g5⟩ := ai_new_ok hE (b := (0, 5120)) (v := (Ln : Int)) ⟨by show (0 : Int) ≤ Ln; omega, by show (Ln : Int) ≤ 5120; omega⟩ (ai_small32 hs32) en
    have ez : z = (G.1.1, 0) ∧ E'.1 = G.1.1 + 1 := by
      obtain ⟨⟨N, lb, ds⟩, G2⟩ := G
      cases en
      exact ⟨rfl, rfl⟩
    obtain ⟨rfl, hE1⟩ := ez
    rw [had]
    refine va_slen hx hbb hX hl1 hl2 hS hdg ?_
    have e0 : r' G.1.1 = (Ln : Int) := by
      have : r' G.1.1 + 0 = (Ln : Int) := g5
      omega
    refine k r' _ g1 e0 ?_
    have := hR0.re (E' := E') (r' := r') (S' := .inl (G.1.1, 0) :: S) (st' := .int (Int32.ofNat Ln) :: t) g1 g2 g3 ⟨⟨by rw [hE1]; exact Nat.lt_succ_self _, _, rfl, hv.trans g5.symm⟩, h2.mono g1 ai_ext.rfl' g2 (Nat.le_refl _)⟩
    unfold hg_new
    rw [en]
    exact this
/-- a segment that reads nothing of the script -/
theorem lx_ok0 {stop : Nat → Bool} (F : lx_Fr p R s m args meth c D tyc A sa) (hl : l.stackTraces = false) (hRf : 74 ≤ R.frames) (hRl : 4624 ≤ R.locals) (hPw : ai_Pw tyc ws) {skip : Bool} {pc : Nat} {L S : List ai_V} {G : ai_G} {fs : List ai_F} (h : lx_sg [] stop skip pc L S G = some fs) (hR : ai_Rel D tyc A s sa ws 7 r ad L S G H locs ls st)
    (kk : ∀ f ∈ fs, ∀ (r' : Nat → Int) (ad' : Nat → Nat), ai_ext G.1.1 r r' → ai_ext G.2.1.1 ad ad' → ∀ (H' : Heap) (locs' : List Loc) (ls' : Array Slot) (st' : List Value), ai_Rel D tyc A s sa ws 7 r' ad' f.2.1 f.2.2.1 f.2.2.2 H' locs' ls' st' → W p l e R s m args below meth c H' locs' f.2.2.2.2.2.1 f.2.2.2.2.2.2 Q (F0 m f.1 ls' st')) :
    W p l e R s m args below meth c H locs G.2.2.1 G.2.2.2 Q (F0 m pc ls st) := by
  have hT : lt_all 60 ([] : List (Nat × us_C)) := trivial
  exact sg_ok (ini := false) (ret := some .boolean) (tb := [(0, 0, 0, 0)]) (mt := ct_mt) (rm := lt_rm (60 + 5)) F (fun w hw => (List.mem_filter.mp hw).2) (fun w hw => (List.mem_filter.mp hw).2) (fun q => by cases q) ck_286.tab (fun mj aa G o ho => (lw_cal_ok (l := l) (D := D) (tyc := tyc) (A := A) (sa := sa) hl hT ho).1) (fun pc z k pcn q => by cases q) (fun mj => ⟨by show 60 + 5 + 0 + 8 + 1 ≤ R.frames; omega, by show 64 * (60 + 5 + 0) + 400 + 64 ≤ R.locals; omega, rfl, rfl⟩) (fun mj aa G o ho => (lw_cal_ok hl hT ho).2) hPw 10000 skip pc L S G fs r ad H locs ls st (lx_sg_eq.symm.trans h) hR (fun f hf r' ad' x1 x2 x3 x4 H' locs' ls' st' hR' => kk f hf r' ad' x1 x2 H' locs' ls' st' hR')
/-- the law's end, or on at the head -/
noncomputable def lx_Ke (p : Program) (l : Launch) (e : Env) (R : Room) (s : State) (m : MethodId) (args : Array Value) (below : List Frame) (meth : Method) (c : Code) (Q : State → Prop) (A : Nat → Prop) : Prop :=
  ∀ (H : Heap) (locs : List Loc) (ls : Array Slot) (cs sl : Nat), cs ≤ 1 → sl ≤ 6 → (∀ q ∈ locs, A q.base) → W p l e R s m args below meth c H locs cs sl Q (F0 m 1748 ls [.int 1])
set_option maxHeartbeats 2000000 in
theorem lx_body (F : lx_Fr p R s m args meth c D tyc A sa) (hl : l.stackTraces = false) (hRf : 111 ≤ R.frames) (hRl : 8000 ≤ R.locals) (hsa : (z0, b, Ln, xs) ∈ sa.2) (hLn : Ln ≤ 5120) (hV : lx_V tyc ws r) (hvk : v ≤ k) (hk4 : k ≤ 4) (hR : ai_Rel D tyc A s sa ws 7 r ad lx_L [] (lx_G v 0) H locs ls st) (hi : 0 ≤ r 1) (h110 : r 73 = (k : Int)) (had : ad 0 = b)
    (ke : lx_Ke p l e R s m args below meth c Q A) (kn : r 1 + 10 ≤ (Ln : Int) → lx_Kn p l e R s m args below meth c Q D tyc A sa b (r 1)) : W p l e R s m args below meth c H locs 0 0 Q (F0 m 23 ls st) := by
  have hseg := lx_segs v (by omega)
  unfold lx_seg at hseg
  simp only [Bool.and_eq_true] at hseg
  obtain ⟨hA, hB, hC, hD, hEx, h63⟩ := hseg
  obtain ⟨dc1, dc2, -⟩ := lx_dc
  have hN0 : (lx_G v 0).1.1 = 381 := lx_N v 0
  have hN1 : (lx_G v 1).1.1 = 382 := lx_N v 1
  have hN2 : (lx_G v 2).1.1 = 383 := lx_N v 2
  obtain ⟨fsA, eA, tA⟩ := lx_at_ok hA
  refine lx_ok0 (G := lx_G v 0) F hl (by omega) (by omega) hV.1.pw eA hR (fun f hf r1 ad1 x1 x2 H1 locs1 ls1 st1 hR1 => ?_)
  rw [hN0] at x1
  obtain ⟨⟨g1, g2⟩, g3⟩ := tA f hf
  obtain ⟨e1, -, -, r2, hR2, u⟩ := lx_to_ok g3 hR1
  rw [e1, g1, g2]
  have J2 : lx_V tyc ws r2 := lx_V_k hV x1 (by decide +kernel) lx_j2 u
  have q1 : r2 1 = r 1 := by
    have : r2 1 = r1 1 + 0 := u _ List.mem_cons_self
    rw [this, x1 1 (by omega), Int.add_zero]
  have q2 : r2 73 = (k : Int) := by
    have : r2 73 = r1 73 + 0 := u _ (List.mem_cons_of_mem _ List.mem_cons_self)
    rw [this, x1 73 (by omega), h110, Int.add_zero]
  have ad1' : ad1 0 = b := (x2 0 (by show 0 < 336; omega)).trans had
  refine lx_len (G := lx_G v 0) F dc1 hsa ad1' hLn hR2 (fun r3 st3 y1 y2 hR3 => ?_)
  rw [hN0] at y1 y2 hR3
  have J3 : lx_V tyc ws r3 := lx_V_x J2 y1 (by decide +kernel)
  obtain ⟨fsB, eB, tB⟩ := lx_at_ok hB
  refine lx_ok0 (G := hg_new (lx_G v 0) (0, 5120)) F hl (by omega) (by omega) hV.1.pw eB hR3 (fun f hf r4 ad4 x1 x2 H4 locs4 ls4 st4 hR4 => ?_)
  rw [lx_newN, hN0] at x1
  obtain ⟨⟨g1, g2⟩, g3⟩ := tB f hf
  obtain ⟨e1, -, -, r5, hR5, u⟩ := lx_to_ok g3 hR4
  rw [e1, g1, g2]
  have J5 : lx_V tyc ws r5 := lx_V_k J3 x1 (by decide +kernel) lx_j4 u
  have p1 : r5 1 = r 1 := by
    have : r5 1 = r4 1 + 0 := u _ List.mem_cons_self
    rw [this, x1 1 (by omega), y1 1 (by omega), q1, Int.add_zero]
  have p2 : r5 73 = (k : Int) := by
    have : r5 73 = r4 73 + 0 := u _ (List.mem_cons_of_mem _ List.mem_cons_self)
    rw [this, x1 73 (by omega), y1 73 (by omega), q2, Int.add_zero]
  have p3 : r5 381 = (Ln : Int) - 10 := by
    have : r5 381 = r4 381 + (-10) := u _ (List.mem_cons_of_mem _ (List.mem_cons_of_mem _ List.mem_cons_self))
    rw [this, x1 381 (by omega), y2]
    omega
  have p4 : r5 382 = r 1 := by
    have : r5 382 = r4 1 + 0 := u _ (List.mem_cons_of_mem _ (List.mem_cons_of_mem _ (List.mem_cons_of_mem _ List.mem_cons_self)))
    rw [this, x1 1 (by omega), y1 1 (by omega), q1, Int.add_zero]
  have ad4' : ad4 0 = b := (x2 0 (by show 0 < 336; omega)).trans ad1'
  refine hg_icmp (G := lx_G v 2) (tgt := 1747) F dc2 (by decide) hR5 (fun hgt st6 hR6 => ?_) (fun hng st6 hR6 => ?_)
  · unfold lx_rE at hEx
    split at hEx
    · rename_i fs efs
      refine lx_ok0 (G := lx_G v 2) F hl (by omega) (by omega) hV.1.pw efs hR6 (fun f hf r7 ad7 _ _ H7 locs7 ls7 st7 hR7 => ?_)
      have g := List.all_eq_true.mp hEx f hf
      simp only [Bool.and_eq_true, decide_eq_true_eq] at g
      obtain ⟨g1, g2, g3, g4⟩ := g
      have hst := hR7.stk
      rw [g4] at hst
      obtain ⟨i, t, rfl, -, hi1, ht⟩ := hst.int
      have et : t = [] := by
        cases t with
        | nil => rfl
        | cons _ _ => exact ht.elim
      have hi2 : i.toInt = r7 0 + 1 := hi1
      rw [hR7.env.1] at hi2
      have hi3 : i = 1 := Int32.toInt_inj.mp (hi2.trans (by decide))
      rw [et, hi3, Nat.eq_of_beq_eq_true g1, Nat.eq_of_beq_eq_true g2, Nat.eq_of_beq_eq_true g3]
      exact ke H7 locs7 ls7 0 0 (by omega) (by omega) (fun q hq => hR7.wd.2.1.2.2 q hq)
    · cases hEx
  · have hle : r 1 + 10 ≤ (Ln : Int) := by
      have hng : ¬ (r5 381 + 0 < r5 382 + 0) := hng
      rw [p3, p4] at hng
      omega
    have kn := kn hle
    have h5 : r5 1 ≤ 5110 := by rw [p1]; omega
    obtain ⟨fsC, eC, tC⟩ := lx_at_ok hC
    have hRc := hg_cap_ok hR6 (t := 1) (b := (0, 5110)) (by rw [hN2]; omega) ⟨by rw [p1]; exact hi, h5⟩
    refine lx_ok (k0 := 60) (T := []) (G := hg_cap (lx_G v 2) 1 (0, 5110)) F hl trivial (by omega) (by omega) hV.1.pw hsa 4 [] false 33 lx_L _ fsC r5 ad4 H4 locs4 ls4 st6 eC hRc (by show 1 < (lx_G v 2).1.1; rw [hN2]; omega) (by show 0 < 336; omega) (by rw [p1]; exact ⟨hi, hle⟩) ad4' (fun q hq => by cases hq) (fun q hq => by cases hq) (fun f hf r7 ad7 x1 x2 _ _ H7 locs7 ls7 st7 hR7 => ?_)
    have x1 : ai_ext (lx_G v 2).1.1 r5 r7 := x1
    rw [hN2] at x1
    obtain ⟨⟨g1, g2⟩, g3⟩ := tC f hf
    obtain ⟨e1, -, -, r8, hR8, u⟩ := lx_to_ok g3 hR7
    rw [e1, g1, g2]
    have J8 : lx_V tyc ws r8 := lx_V_k J5 x1 (by decide +kernel) lx_j2 u
    have hV8 : lx_V tyc ws r8 := J8
    have z1 : r8 1 = r 1 := by
      have : r8 1 = r7 1 + 0 := u _ List.mem_cons_self
      rw [this, x1 1 (by omega), p1, Int.add_zero]
    have z2 : r8 73 = (k : Int) := by
      have : r8 73 = r7 73 + 0 := u _ (List.mem_cons_of_mem _ List.mem_cons_self)
      rw [this, x1 73 (by omega), p2, Int.add_zero]
    have ad7' : ad7 0 = b := (x2 0 (by show 0 < 336; omega)).trans ad4'
    have b63 : 0 ≤ r8 381 ∧ r8 381 ≤ 63 := by
      unfold lx_63 at h63
      obtain ⟨q, hq, hq2⟩ := List.any_eq_true.mp h63
      simp only [Bool.and_eq_true] at hq2
      obtain ⟨a1, a2, a3⟩ := hq2
      have a1 := Nat.eq_of_beq_eq_true a1
      have a2 := ai_eq_iff.mp a2
      have a3 := ai_eq_iff.mp a3
      obtain ⟨-, c2, c3⟩ := hR8.env.2.2.2.1 q hq
      rw [a1, a2] at c2
      rw [a1, a3] at c3
      exact ⟨c2, c3⟩
    obtain ⟨w, hw⟩ : ∃ w : Nat, r8 381 = (w : Int) := ⟨(r8 381).toNat, by omega⟩
    have hi8 : 0 ≤ r8 1 ∧ r8 1 + 10 ≤ (Ln : Int) := by rw [z1]; exact ⟨hi, hle⟩
    have h58 : r8 1 ≤ 5110 := by rw [z1, ← p1]; exact h5
    have kn8 : lx_Kn p l e R s m args below meth c Q D tyc A sa b (r8 1) := by rw [z1]; exact kn
    by_cases h33 : w < 33
    · have hRw : ai_Rel D tyc A s sa ws 7 r8 ad7 lx_L [.inl (0, .ofNat w)] (lx_G v 1) H7 locs7 ls7 st7 := by
        obtain ⟨i, t, rfl, -, c2, c3⟩ := hR8.stk.int
        refine hR8.st' ⟨⟨by rw [hN1]; omega, i, rfl, ?_⟩, c3⟩
        have c2 : i.toInt = r8 381 + 0 := c2
        show i.toInt = r8 0 + (w : Int)
        rw [c2, hw, hR8.env.1]
        omega
      by_cases h2 : w = 2
      · subst h2
        exact lx_millQ (lx_mills k v hvk hk4) F hl (by omega) (by omega) hsa hV8 hvk hk4 hRw hi8 h58 z2 ad7' kn8
      · by_cases h8 : w = 8
        · subst h8
          exact lx_offer F hl hRf hRl hsa hV8 hvk hk4 hRw hi8 h58 z2 ad7' kn8
        · by_cases hg0 : w = 0
          · subst hg0
            exact lx_placeJ F hl (by omega) (by omega) hsa hV8 hvk hk4 hRw hi8 h58 z2 ad7' kn8
          by_cases hg3 : w = 3
          · subst hg3
            exact lx_sheetJ F hl (by omega) (by omega) hsa hV8 hvk hk4 hRw hi8 h58 z2 ad7' kn8
          by_cases hg4 : w = 4
          · subst hg4
            exact lx_writeP F hl (by omega) (by omega) hsa hV8 hvk hk4 hRw hi8 h58 z2 ad7' kn8
          by_cases hg5 : w = 5
          · subst hg5
            exact lx_copy F hl (by omega) (by omega) hsa hV8 hvk hk4 hRw hi8 h58 z2 ad7' kn8
          by_cases hg6 : w = 6
          · subst hg6
            exact lx_dayP F hl (by omega) (by omega) hsa hV8 hvk hk4 hRw hi8 h58 z2 ad7' kn8
          by_cases hg7 : w = 7
          · subst hg7
            exact lx_feedT F hl (by omega) (by omega) hsa hV8 hvk hk4 hRw hi8 h58 z2 ad7' kn8
          by_cases hg10 : w = 10
          · subst hg10
            exact lx_asked F hl (by omega) (by omega) hsa hV8 hvk hk4 hRw hi8 h58 z2 ad7' kn8
          exact lx_kindV (lx_kk w h33 h2 h8 hg0 hg3 hg4 hg5 hg6 hg7 hg10 v (by omega)) F hl (by omega) (by omega) hsa hV8 hvk hk4 hRw hi8 h58 z2 ad7' kn8
    · obtain ⟨fsD, eD, tD⟩ := lx_at_ok hD
      have hRd := hg_cap_ok (hg_cap_ok hR8 (t := 1) (b := (0, 5110)) (by rw [hN1]; omega) ⟨hi8.1, h58⟩) (t := 381) (b := (33, 63)) (by show 381 < (lx_G v 1).1.1; rw [hN1]; omega) ⟨by show (33 : Int) ≤ r8 381; omega, b63.2⟩
      refine lx_ok (k0 := 60) (T := []) (G := lx_GD v) F hl trivial (by omega) (by omega) hV.1.pw hsa 4 [] false 40 lx_L _ fsD r8 ad7 H7 locs7 ls7 st7 eD hRd (by show 1 < (lx_G v 1).1.1; rw [hN1]; omega) (by show 0 < 336; omega) hi8 ad7' (fun q hq => by cases hq) (fun q hq => by cases hq) (fun f hf r9 ad9 x1 x2 _ _ H9 locs9 ls9 st9 hR9 => ?_)
      have x1 : ai_ext (lx_G v 1).1.1 r8 r9 := x1
      rw [hN1] at x1
      obtain ⟨⟨g1, g2⟩, g3⟩ := tD f hf
      obtain ⟨e1, -, -, r10, hR10, u⟩ := lx_to_ok g3 hR9
      rw [e1, g1, g2]
      have t1 : r10 1 = r9 1 + 10 := u _ List.mem_cons_self
      have t2 : r10 73 = r9 73 + 0 := u _ (List.mem_cons_of_mem _ List.mem_cons_self)
      exact kn8 v k ws r10 ad9 H9 locs9 ls9 st9 0 0 hvk hk4 (by omega) (by omega) (lx_V_k J8 x1 (by decide +kernel) lx_j2 u) hR10 (by rw [t1, x1 1 (by omega)]) (by rw [t2, x1 73 (by omega), z2, Int.add_zero]) ((x2 0 (by show 0 < 336; omega)).trans ad7')
/-- an iteration's own room -/
noncomputable def lx_R : Room := ⟨2048, 1, 6, 84000⟩
set_option maxHeartbeats 2000000 in
theorem lx_loop (F : ai_Fr p room_1 s m args meth c D tyc A sa 7 code "LightsMarketLaw" ft_W ct_strs ft_N (room_1.cells, room_1.slots) ct_dflt ct_kind) (hl : l.stackTraces = false) (hsa : (z0, b, Ln, xs) ∈ sa.2) (hLn : Ln ≤ 5120) {C0 S0 : Nat} (hA : ∀ q, A q → s.heap.size ≤ q) (hC0 : C0 + 513 ≤ 601024) (hS0 : S0 + 3078 ≤ 7293034)
    (ke : ∀ (H : Heap) (ls : Array Slot), W p l e room_1 s m args below meth c H [] 601024 7293034 Q (F0 m 1748 ls [.int 1])) :
    ∀ (n j v k : Nat) (ws : va_W) (r : Nat → Int) (ad : Nat → Nat) (H : Heap) (locs : List Loc) (ls : Array Slot) (st : List Value) (cells slots : Nat), j + n = 512 → v ≤ k → k ≤ 4 → cells ≤ C0 + j → slots ≤ S0 + 6 * j → lx_V tyc ws r → ai_Rel D tyc A s sa ws 7 r ad lx_L [] (lx_G v 0) H locs ls st → r 1 = ((10 * j : Nat) : Int) → r 73 = (k : Int) → ad 0 = b → W p l e room_1 s m args below meth c H locs cells slots Q (F0 m 23 ls st) := by
  intro n
  induction n with
  | zero =>
    intro j v k ws r ad H locs ls st cells slots hj hvk hk4 hc hs hV hR h1 h110 had
    have hS : va_S A s.heap H locs := hR.wd.2.1
    refine lw_shift lx_R (by show 2048 ≤ 2048; omega) (by show 84000 ≤ 84000; omega) (by show cells + 1 ≤ 601024; omega) (by show slots + 6 ≤ 7293034; omega) ⟨by show 8 ≤ 2048; omega, by show 400 ≤ 84000; omega⟩ (fun w hw => (List.mem_filter.mp hw).2) (fun w hw => (List.mem_filter.mp hw).2) F hR (fun s2 h2 F2 hR2 conv => ?_)
    refine lx_body (k := k) F2 hl (by show 111 ≤ 2048; omega) (by show 8000 ≤ 84000; omega) hsa hLn hV hvk hk4 hR2 (by rw [h1]; exact Int.natCast_nonneg _) h110 had (fun H' locs' ls' cs sl c1 c2 hlo => conv H' locs' cs sl _ (va_forget (fun q hq => ?_) (W.widen (by omega) (by omega) (ke H' ls')))) (fun hle => ?_)
    · rcases List.mem_append.mp hq with hq | hq
      · exact hA _ (hS.2.2 q hq)
      · exact hA _ (hlo q hq)
    · rw [h1] at hle
      omega
  | succ n ih =>
    intro j v k ws r ad H locs ls st cells slots hj hvk hk4 hc hs hV hR h1 h110 had
    have hS : va_S A s.heap H locs := hR.wd.2.1
    refine lw_shift lx_R (by show 2048 ≤ 2048; omega) (by show 84000 ≤ 84000; omega) (by show cells + 1 ≤ 601024; omega) (by show slots + 6 ≤ 7293034; omega) ⟨by show 8 ≤ 2048; omega, by show 400 ≤ 84000; omega⟩ (fun w hw => (List.mem_filter.mp hw).2) (fun w hw => (List.mem_filter.mp hw).2) F hR (fun s2 h2 F2 hR2 conv => ?_)
    refine lx_body (k := k) F2 hl (by show 111 ≤ 2048; omega) (by show 8000 ≤ 84000; omega) hsa hLn hV hvk hk4 hR2 (by rw [h1]; exact Int.natCast_nonneg _) h110 had (fun H' locs' ls' cs sl c1 c2 hlo => conv H' locs' cs sl _ (va_forget (fun q hq => ?_) (W.widen (by omega) (by omega) (ke H' ls')))) (fun hle v' k' ws' r' ad' H' locs' ls' st' cs sl a1 a2 a3 a4 a5 a6 a7 a8 a9 => conv H' locs' cs sl _ (ih (j + 1) v' k' ws' r' ad' H' (locs ++ locs') ls' st' (cells + cs) (slots + sl) (by omega) a1 a2 (by omega) (by omega) a5 (sh_rel hS h2 a6) (by rw [a7, h1]; omega) a8 a9))
    · rcases List.mem_append.mp hq with hq | hq
      · exact hA _ (hS.2.2 q hq)
      · exact hA _ (hlo q hq)
end LLP
