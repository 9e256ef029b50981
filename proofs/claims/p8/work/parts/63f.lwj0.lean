/-! THE LAW: kinds by what the script and the world really have, with the invariant (printed by jspec8.py) -/
noncomputable def lx_z0 : ai_G := hg_cap (lx_E5, lx_h, 0, 0) 1 (0, 5110)
/-- a kind's runs, each with one box for one place of the script (its first behind a sheet's, a night's quarter) -/
noncomputable def lx_kap (w : Nat) : Int := match Nat.beq w 22 with
  | true => 1
  | false => 2
theorem lx_kapb (w : Nat) : 0 ≤ lx_kap w ∧ lx_kap w ≤ 9 := by
  unfold lx_kap
  cases Nat.beq w 22 <;> decide
noncomputable def lx_b2 (w : Nat) (B : Int → List (Int × Int)) (b : Int × Int) : Int → List (Int × Int) := fun k => if k = lx_kap w then [b] else B k
noncomputable def lx_zckA (w : Nat) (T : List (Nat × us_C)) (B : Int → List (Int × Int)) (rd : List (Int × ai_X)) (ck : ai_F → Bool) (G : ai_G) (b : Int × Int) : Bool := match lx_runA T (lx_b2 w B b) [23] 16 rd false 40 lx_L [.inl (0, .ofNat w)] G with
  | some fs => fs.all ck
  | none => false
noncomputable def lx_zck (w : Nat) (T : List (Nat × us_C)) (B : Int → List (Int × Int)) (rd : List (Int × ai_X)) (ck : ai_F → Bool) (G : ai_G) : Bool := (List.range 10).all (fun k => bx_cov ai_lo32 (B (.ofNat k))) && (B (lx_kap w)).all (lx_zckA w T B rd ck G)
theorem lx_zck_of {w : Nat} {T : List (Nat × us_C)} {B : Int → List (Int × Int)} {rd : List (Int × ai_X)} {ck : ai_F → Bool} {G : ai_G} {l : List (Int × Int)} (hc : (List.range 10).all (fun k => bx_cov ai_lo32 (B (.ofNat k))) = true) (hl : B (lx_kap w) = l) (h : l.all (lx_zckA w T B rd ck G) = true) : lx_zck w T B rd ck G = true := by
  unfold lx_zck
  rw [hl, h, Bool.and_true]
  exact hc
theorem lx_ac {α : Type} {f : α → Bool} {a : α} {l : List α} (h : f a = true) (g : l.all f = true) : (a :: l).all f = true := by
  rw [List.all_cons, h, g]
  rfl
theorem lx_an {α : Type} {f : α → Bool} : ([] : List α).all f = true := rfl
theorem lx_zmb : (104, ((0 : Int), (12 : Int))) ∈ lx_E5.2.1 := by decide +kernel
section LZJ
variable {p : Program} {l : Launch} {e : Env} {R : Room} {s : State} {m : MethodId} {args : Array Value} {below : List Frame} {meth : Method} {c : Code} {Q : State → Prop}
variable {D : va_G} {tyc : Nat → ClassId} {A : Nat → Prop} {sa : ai_B} {ws : va_W} {b Ln z0 v k w : Nat} {xs : Nat → Int32}
variable {r r0 : Nat → Int} {ad : Nat → Nat} {H : Heap} {locs : List Loc} {ls : Array Slot} {st : List Value} {G : ai_G} {T : List (Nat × us_C)} {B : Int → List (Int × Int)} {rd : List (Int × ai_X)} {ck : ai_F → Bool}
set_option maxHeartbeats 2000000 in
theorem lx_goJ (F : lx_Fr p R s m args meth c D tyc A sa) (hl : l.stackTraces = false) (hT : lt_all 60 T) (hRf : 111 ≤ R.frames) (hRl : 8000 ≤ R.locals) (hsa : (z0, b, Ln, xs) ∈ sa.2) (hV : cl_V tyc ws) (hvk : v ≤ k) (hk4 : k ≤ 4) (hi : 0 ≤ r 1 ∧ r 1 + 10 ≤ (Ln : Int)) (h110 : r 103 = (k : Int)) (had : ad 0 = b)
    (hck : lx_zck w T B rd ck G = true) (hRG : ai_Rel D tyc A s sa ws 7 r0 ad lx_L [.inl (0, .ofNat w)] G H locs ls st) (hx0 : ai_ext 320 r r0) (hG : 320 ≤ G.1.1) (h0 : 0 < G.2.1.1) (hrd : ∀ q ∈ rd, ai_vx r0 q.2 = (xs (r 1 + q.1).toNat).toInt) (hrl : ∀ q ∈ rd, q.2.1 < G.1.1)
    (hend : ∀ (f : ai_F) (r' : Nat → Int) (ad' : Nat → Nat) (H' : Heap) (locs' : List Loc) (ls' : Array Slot) (st' : List Value), ck f = true → ai_ext G.1.1 r0 r' → ai_Rel D tyc A s sa ws 7 r' ad' f.2.1 f.2.2.1 f.2.2.2 H' locs' ls' st' → f.1 = 23 ∧ f.2.2.2.2.2.1 ≤ 1 ∧ f.2.2.2.2.2.2 ≤ 6 ∧ ∃ r2, ai_Rel D tyc A s sa ws 7 r2 ad' lx_L [] (lx_G v 0) H' locs' ls' st' ∧ r2 1 = r' 1 + 10 ∧ r2 103 = r' 103 + 0 ∧ lx_J r2)
    (kn : lx_Kn p l e R s m args below meth c Q D tyc A sa b (r 1)) : W p l e R s m args below meth c H locs G.2.2.1 G.2.2.2 Q (F0 m 40 ls st) := by
  unfold lx_zck at hck
  rw [Bool.and_eq_true] at hck
  obtain ⟨hcov, hrows⟩ := hck
  have cov : ∀ k : Int, 0 ≤ k → k ≤ 9 → ∃ b ∈ B k, b.1 ≤ (xs (r 1 + k).toNat).toInt ∧ (xs (r 1 + k).toNat).toInt ≤ b.2 := fun k k1 k2 => by
    have g : bx_cov ai_lo32 (B (Int.ofNat k.toNat)) = true := List.all_eq_true.mp hcov k.toNat (List.mem_range.mpr (by omega))
    have ek : Int.ofNat k.toNat = k := by
      show ((k.toNat : Nat) : Int) = k
      omega
    rw [ek] at g
    exact bx_cov_ok (ai_i32 _).2 g (ai_i32 _).1
  obtain ⟨bb, hbb, hb1, hb2⟩ := cov (lx_kap w) (lx_kapb w).1 (lx_kapb w).2
  have hck := List.all_eq_true.mp hrows bb hbb
  unfold lx_zckA at hck
  split at hck
  · rename_i fs hrun
    have e1r : r0 1 = r 1 := hx0 1 (by omega)
    refine lx_okA (k0 := 60) (T := T) (B := lx_b2 w B bb) (G := G) (i0 := r 1) F hl hT (by omega) (by omega) hV.pw hsa (fun k k1 k2 => ?_) 16 rd false 40 lx_L _ fs r0 ad H locs ls st hrun e1r hRG (by omega) h0 (by rw [e1r]; exact hi) had (by rw [e1r]; exact hrd) hrl (fun f hf r' ad' x1 x2 x3 x4 H' locs' ls' st' hR' => ?_)
    · unfold lx_b2
      by_cases e : k = lx_kap w
      · rw [if_pos e, e]
        exact ⟨bb, List.mem_cons_self, hb1, hb2⟩
      · rw [if_neg e]
        exact cov k k1 k2
    obtain ⟨e1, e2, e3, r2, hR2, q1, q2, hJ⟩ := hend f r' ad' H' locs' ls' st' (List.all_eq_true.mp hck f hf) x1 hR'
    rw [e1]
    have y1 : ai_ext 320 r r' := fun u hu => (x1 u (by omega)).trans (hx0 u hu)
    exact kn v k ws r2 ad' H' locs' ls' st' _ _ hvk hk4 e2 e3 ⟨hV, hJ⟩ hR2 (by rw [q1, y1 1 (by omega)]) (by rw [q2, y1 103 (by omega), h110, Int.add_zero]) ((x2 0 h0).trans had)
  · cases hck
end LZJ
