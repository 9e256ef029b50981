/-! THE LAW: runs that tell what they read of the script apart by boxes -/
noncomputable def bx_cov : Int → List (Int × Int) → Bool
  | lo, [] => ai_le (ai_hi32 + 1) lo
  | lo, (a, b) :: l => match ai_le a lo with
    | true => bx_cov (b + 1) l
    | false => false
theorem bx_cov_ok {v : Int} (hv : v ≤ ai_hi32) : ∀ {l : List (Int × Int)} {lo : Int}, bx_cov lo l = true → lo ≤ v → ∃ b ∈ l, b.1 ≤ v ∧ v ≤ b.2
  | [], lo, h, g => by
    have h : ai_le (ai_hi32 + 1) lo = true := h
    have := ai_le_iff.mp h
    omega
  | (a, b) :: l, lo, h, g => by
    unfold bx_cov at h
    split at h
    · rename_i e
      have e := ai_le_iff.mp e
      by_cases q : v ≤ b
      · exact ⟨(a, b), List.mem_cons_self, by show a ≤ v; omega, q⟩
      · obtain ⟨x, h1, h2⟩ := bx_cov_ok hv h (by omega)
        exact ⟨x, List.mem_cons_of_mem _ h1, h2⟩
    · cases h
noncomputable def bx_z (G : ai_G) (b : Int × Int) : ai_X × ai_G := match ai_eq b.1 b.2 with
  | true => ((0, b.1), G)
  | false => ((G.1.1, 0), hg_new G b)
noncomputable def bx_0 : Int → List (Int × Int) := fun _ => [(ai_lo32, ai_hi32)]
noncomputable def lx_runB (T : List (Nat × us_C)) (B : Int → List (Int × Int)) (stop : List Nat) : Nat → List (Int × ai_X) → Bool → Nat → List ai_V → List ai_V → ai_G → Option (List ai_F)
  | 0, _, _, _, _, _, _ => none
  | n + 1, rd, skip, pc, L, S, G => match lx_sg T (lx_stop stop) skip pc L S G with
    | none => none
    | some fs => sg_many (fun f => match stop.elem f.1 with
      | true => some [f]
      | false => match lx_isr f.1 with
        | false => none
        | true => match lx_read f.2.2.1 with
          | none => none
          | some (k, S') => match rd.find? (fun q => ai_eq q.1 k && Nat.blt q.2.1 f.2.2.2.1.1) with
            | some q => lx_runB T B stop n rd false (f.1 + 1) f.2.1 (.inl q.2 :: S') f.2.2.2
            | none => match bx_cov ai_lo32 (B k) with
              | false => none
              | true => sg_many (fun b => lx_runB T B stop n ((k, (bx_z f.2.2.2 b).1) :: rd) false (f.1 + 1) f.2.1 (.inl (bx_z f.2.2.2 b).1 :: S') (bx_z f.2.2.2 b).2) (B k)) fs
section LWB
variable {p : Program} {l : Launch} {e : Env} {R : Room} {s : State} {m : MethodId} {args : Array Value} {below : List Frame} {meth : Method} {c : Code} {Q : State → Prop}
variable {D : va_G} {tyc : Nat → ClassId} {A : Nat → Prop} {sa : ai_B} {ws0 : va_W} {nL : Nat} {cc : ByteArray} {own : String} {Ts : List Cond} {strs : List ai_Z} {nws : List Cond} {bud : Nat × Nat} {dflt : Nat → List ai_V} {kind : Nat → Nat → Nat}
variable {r : Nat → Int} {ad : Nat → Nat} {L S : List ai_V} {G : ai_G} {H : Heap} {locs : List Loc} {ls : Array Slot} {st : List Value} {pc b Ln z0 : Nat} {xs : Nat → Int32}
/-- a read of the script, a number of its own within bounds -/
theorem lx_slb (F : ai_Fr p R s m args meth c D tyc A sa nL cc own Ts strs nws bud dflt kind) (hdg : decode cc pc = .ok (.iaload, 1)) {i : ai_X} {j : Nat} {q : Int × Int} (hsa : (z0, b, Ln, xs) ∈ sa.2) (had : ad 0 = b) (hR : ai_Rel D tyc A s sa ws0 nL r ad L (.inl i :: .inr (.inr (some (some 0))) :: S) G H locs ls st)
    (hj : j < Ln) (hi : ai_vx r i = (j : Int)) (hq : q.1 ≤ (xs j).toInt ∧ (xs j).toInt ≤ q.2)
    (k : ∀ (r' : Nat → Int) (st' : List Value), ai_ext G.1.1 r r' → r' G.1.1 = (xs j).toInt → ai_Rel D tyc A s sa ws0 nL r' ad L (.inl (G.1.1, 0) :: S) (hg_new G q) H locs ls st' → W p l e R s m args below meth c H locs G.2.2.1 G.2.2.2 Q (F0 m (pc + 1) ls st')) :
    W p l e R s m args below meth c H locs G.2.2.1 G.2.2.2 Q (F0 m pc ls st) := by
  obtain ⟨hx, hbb, -, -, -, hSt0, -⟩ := F
  have hR0 := hR
  obtain ⟨ws, hP, hD, hS, hE, hH, hO, hsa', hL, hSt⟩ := hR
  obtain ⟨ix, t1, rfl, hi1, hi2, h1⟩ := ai_gF.int hSt
  obtain ⟨t, rfl, hq0, h2⟩ := h1.ref
  obtain ⟨hvp, hcl⟩ := ai_vpin (i := ix) (j := j) (n := Ln) (by rw [hi2]; exact hi) hj
  obtain ⟨hX, hl1, hl2⟩ := hSt0.2.2.2.2.2.1 _ hsa
  cases en : ai_new G.1 q with
  | mk z E' =>
    obtain ⟨r', g1, g2, g3, g4, g5⟩ := ai_new_ok hE hq (ai_small32 (ai_i32 _)) en
    have ez : z = (G.1.1, 0) ∧ E'.1 = G.1.1 + 1 := by
      obtain ⟨⟨N, lb, ds⟩, G2⟩ := G
      cases en
      exact ⟨rfl, rfl⟩
    obtain ⟨rfl, hE1⟩ := ez
    rw [had]
    refine va_sld hx hbb hX hl1 hl2 hS hvp hdg ?_
    rw [hcl]
    have e0 : r' G.1.1 = (xs j).toInt := by
      have : r' G.1.1 + 0 = (xs j).toInt := g5
      omega
    refine k r' _ g1 e0 ?_
    have := hR0.re (E' := E') (r' := r') (S' := .inl (G.1.1, 0) :: S) (st' := .int (xs j) :: t) g1 g2 g3 ⟨⟨by rw [hE1]; exact Nat.lt_succ_self _, _, rfl, g5.symm⟩, h2.mono g1 ai_ext.rfl' g2 (Nat.le_refl _)⟩
    unfold hg_new
    rw [en]
    exact this
end LWB
section LWH
variable {p : Program} {l : Launch} {e : Env} {R : Room} {s : State} {m : MethodId} {args : Array Value} {below : List Frame} {meth : Method} {c : Code} {Q : State → Prop}
variable {D : va_G} {tyc : Nat → ClassId} {A : Nat → Prop} {sa : ai_B} {ws0 : va_W} {b Ln z0 k0 : Nat} {xs : Nat → Int32} {T : List (Nat × us_C)} {B : Int → List (Int × Int)} {stop : List Nat}
set_option maxHeartbeats 2000000 in
theorem lx_okB (F : lx_Fr p R s m args meth c D tyc A sa) (hl : l.stackTraces = false) (hT : lt_all k0 T) (hRf : k0 + 14 ≤ R.frames) (hRl : 64 * (k0 + 5) + 464 ≤ R.locals) (hPw : ai_Pw tyc ws0) (hsa : (z0, b, Ln, xs) ∈ sa.2) :
    ∀ (n : Nat) (rd : List (Int × ai_X)) (skip : Bool) (pc : Nat) (L S : List ai_V) (G : ai_G) (fs : List ai_F) (r : Nat → Int) (ad : Nat → Nat) (H : Heap) (locs : List Loc) (ls : Array Slot) (st : List Value),
    lx_runB T B stop n rd skip pc L S G = some fs → ai_Rel D tyc A s sa ws0 7 r ad L S G H locs ls st → 1 < G.1.1 → 0 < G.2.1.1 → (0 ≤ r 1 ∧ r 1 + 10 ≤ (Ln : Int)) → ad 0 = b → (∀ q ∈ rd, ai_vx r q.2 = (xs (r 1 + q.1).toNat).toInt) → (∀ q ∈ rd, q.2.1 < G.1.1) →
    (∀ f ∈ fs, ∀ (r' : Nat → Int) (ad' : Nat → Nat), ai_ext G.1.1 r r' → ai_ext G.2.1.1 ad ad' → G.1.1 ≤ f.2.2.2.1.1 → G.2.1.1 ≤ f.2.2.2.2.1.1 → ∀ (H' : Heap) (locs' : List Loc) (ls' : Array Slot) (st' : List Value), ai_Rel D tyc A s sa ws0 7 r' ad' f.2.1 f.2.2.1 f.2.2.2 H' locs' ls' st' → W p l e R s m args below meth c H' locs' f.2.2.2.2.2.1 f.2.2.2.2.2.2 Q (F0 m f.1 ls' st')) →
    W p l e R s m args below meth c H locs G.2.2.1 G.2.2.2 Q (F0 m pc ls st) := by
  have hgood : ∀ w ∈ ft_W, goodWord w = true := fun w hw => (List.mem_filter.mp hw).2
  have hnk : ∀ w ∈ ft_N, ai_nk w = true := fun w hw => (List.mem_filter.mp hw).2
  intro n
  induction n with
  | zero => intro rd skip pc L S G fs r ad H locs ls st h; cases h
  | succ n ih =>
    intro rd skip pc L S G fs r ad H locs ls st h hR h1G h0G hi had hrd hrl kk
    unfold lx_runB at h
    split at h
    · cases h
    · rename_i fs1 hsg
      refine sg_ok (ini := false) (ret := some .boolean) (tb := [(0, 0, 0, 0)]) (mt := ct_mt) (rm := lt_rm (k0 + 5)) F hgood hnk (fun q => by cases q) ck_286.tab (fun mj aa G o ho => (lw_cal_ok (l := l) (D := D) (tyc := tyc) (A := A) (sa := sa) hl hT ho).1) (fun pc z k pcn q => by cases q) (fun mj => ⟨by show k0 + 5 + 0 + 8 + 1 ≤ R.frames; omega, by show 64 * (k0 + 5 + 0) + 400 + 64 ≤ R.locals; omega, rfl, rfl⟩) (fun mj aa G o ho => (lw_cal_ok hl hT ho).2) hPw 10000 skip pc L S G fs1 r ad H locs ls st (lx_sg_eq.symm.trans hsg) hR (fun f hf r' ad' x1 x2 x3 x4 H' locs' ls' st' hR' => ?_)
      obtain ⟨o, e1, e2⟩ := sg_many_ok h f hf
      have g1 : r' 1 = r 1 := x1 1 h1G
      have had' : ad' 0 = b := (x2 0 h0G).trans had
      split at e1
      · cases e1
        exact kk f (e2 f List.mem_cons_self) r' ad' x1 x2 x3 x4 H' locs' ls' st' hR'
      · split at e1
        · cases e1
        · rename_i hisr
          split at e1
          · cases e1
          · rename_i k S' hrd'
            obtain ⟨eS, k1, k2⟩ := lx_read_ok hrd'
            rw [eS] at hR'
            have hd := lx_isr_ok hisr
            have hj : (r 1 + k).toNat < Ln := by omega
            have hix : ai_vx r' (1, k) = (((r 1 + k).toNat : Nat) : Int) := by
              show r' 1 + k = _
              rw [g1]
              omega
            have hrd2 : ∀ q ∈ rd, ai_vx r' q.2 = (xs (r' 1 + q.1).toNat).toInt := fun q hq => by
              rw [g1, x1.vx (hrl q hq)]
              exact hrd q hq
            split at e1
            · rename_i q hq
              have hqm := List.mem_of_find?_eq_some hq
              have hqp := List.find?_some hq
              rw [Bool.and_eq_true] at hqp
              have hqk := ai_eq_iff.mp hqp.1
              have hql : q.2.1 < f.2.2.2.1.1 := Nat.le_of_ble_eq_true hqp.2
              refine lx_sld (G := f.2.2.2) F hd hsa had' hR' hj hix hql (by rw [hrd2 q hqm, g1, hqk]) (fun st2 hR2 => ?_)
              refine ih rd false (f.1 + 1) f.2.1 _ f.2.2.2 o r' ad' H' locs' ls' st2 e1 hR2 (Nat.lt_of_lt_of_le h1G x3) (Nat.lt_of_lt_of_le h0G x4) (by rw [g1]; exact hi) had' hrd2 (fun z hz => Nat.lt_of_lt_of_le (hrl z hz) x3) (fun g hg r2 ad2 y1 y2 y3 y4 H3 locs3 ls3 st3 hR3 => ?_)
              exact kk g (e2 g hg) r2 ad2 (x1.trans y1 x3) (x2.trans y2 x4) (Nat.le_trans x3 y3) (Nat.le_trans x4 y4) H3 locs3 ls3 st3 hR3
            · split at e1
              · cases e1
              · rename_i hcov
                obtain ⟨bb, hbb, hb1, hb2⟩ := bx_cov_ok (v := (xs (r 1 + k).toNat).toInt) (ai_i32 _).2 hcov (ai_i32 _).1
                obtain ⟨o2, e3, e4⟩ := sg_many_ok e1 bb hbb
                unfold bx_z at e3
                cases eb : ai_eq bb.1 bb.2 with
                | true =>
                  rw [eb] at e3
                  have eb := ai_eq_iff.mp eb
                  have r0 : r' 0 = 0 := hR'.env.1
                  have ev : ai_vx r' (0, bb.1) = (xs (r 1 + k).toNat).toInt := by
                    show r' 0 + bb.1 = _
                    rw [r0]
                    omega
                  have hN0 : (0 : Nat) < f.2.2.2.1.1 := by omega
                  refine lx_sld (G := f.2.2.2) (y := (0, bb.1)) F hd hsa had' hR' hj hix hN0 ev (fun st2 hR2 => ?_)
                  refine ih ((k, (0, bb.1)) :: rd) false (f.1 + 1) f.2.1 _ f.2.2.2 o2 r' ad' H' locs' ls' st2 e3 hR2 (Nat.lt_of_lt_of_le h1G x3) (Nat.lt_of_lt_of_le h0G x4) (by rw [g1]; exact hi) had' (fun q hq => ?_) (fun q hq => ?_) (fun g hg r2 ad2 y1 y2 y3 y4 H3 locs3 ls3 st3 hR3 => ?_)
                  · rcases List.mem_cons.mp hq with rfl | hq
                    · show ai_vx r' (0, bb.1) = (xs (r' 1 + k).toNat).toInt
                      rw [g1]
                      exact ev
                    · exact hrd2 q hq
                  · rcases List.mem_cons.mp hq with rfl | hq
                    · exact hN0
                    · exact Nat.lt_of_lt_of_le (hrl q hq) x3
                  · exact kk g (e2 g (e4 g hg)) r2 ad2 (x1.trans y1 x3) (x2.trans y2 x4) (Nat.le_trans x3 y3) (Nat.le_trans x4 y4) H3 locs3 ls3 st3 hR3
                | false =>
                  rw [eb] at e3
                  refine lx_slb (G := f.2.2.2) (q := bb) F hd hsa had' hR' hj hix ⟨hb1, hb2⟩ (fun r2 st2 z1 z2 hR2 => ?_)
                  have hN : (hg_new f.2.2.2 bb).1.1 = f.2.2.2.1.1 + 1 := by
                    obtain ⟨pc0, L0, S0, ⟨N, lb, ds⟩, G2⟩ := f
                    rfl
                  have g2 : r2 1 = r 1 := (z1 1 (Nat.lt_of_lt_of_le h1G x3)).trans g1
                  refine ih ((k, (f.2.2.2.1.1, 0)) :: rd) false (f.1 + 1) f.2.1 _ (hg_new f.2.2.2 bb) o2 r2 ad' H' locs' ls' st2 e3 hR2 (by rw [hN]; omega) (Nat.lt_of_lt_of_le h0G x4) (by rw [g2]; exact hi) had' (fun q hq => ?_) (fun q hq => ?_) (fun g hg r3 ad3 y1 y2 y3 y4 H3 locs3 ls3 st3 hR3 => ?_)
                  · rcases List.mem_cons.mp hq with rfl | hq
                    · show r2 f.2.2.2.1.1 + 0 = _
                      rw [z2, g2, Int.add_zero]
                    · rw [g2, z1.vx (Nat.lt_of_lt_of_le (hrl q hq) x3), ← g1]
                      exact hrd2 q hq
                  · rcases List.mem_cons.mp hq with rfl | hq
                    · rw [hN]
                      exact Nat.lt_succ_self _
                    · rw [hN]
                      exact Nat.lt_succ_of_lt (Nat.lt_of_lt_of_le (hrl q hq) x3)
                  · rw [hN] at y1 y3
                    exact kk g (e2 g (e4 g hg)) r3 ad3 (fun t ht => (y1 t (by omega)).trans ((z1 t (by omega)).trans (x1 t ht))) (x2.trans y2 x4) (by omega) (Nat.le_trans x4 y4) H3 locs3 ls3 st3 hR3
end LWH
