/-! TEXTS: what may be done where the offers are out of order -/
noncomputable def ps_T0 (mi : Nat) (Y : pt_Y) (P P0 : pt_P) : Prop :=
  (∀ (k : Nat × Nat × Nat) (L S : List ai_V) (r : Nat → Int) (M : Nat → Nat → Int), P0 k L S r M → P k L S r M) ∧
  (∀ (stop : List Nat) (skip : Bool) (k : Nat × Nat × Nat) (L S : List ai_V) (r : Nat → Int) (M : Nat → Nat → Int) (sp : List (Nat × Int)) (cp : List (Nat × Int × Int)) (le : List (ai_X × ai_X)) (C : List Nat) (Es : List pt_E), pt_row0 Y mi stop skip k L S sp cp le C Es = true → pt_asm r sp cp le → pt_ks P0 r M Es → P0 k L S r M) ∧
  (∀ (k : Nat × Nat × Nat) (L S : List ai_V) (r : Nat → Int) (M : Nat → Nat → Int) (q nq z j : Nat) (i : ai_X), pt_lck Y mi k.1 1 q nq 0 z L S = true → j < nq → ai_vx r i = (j : Int) → P0 (k.1 + 1, k.2) L (.inl (z, 0) :: S) (pt_set r z (M q j)) M → P0 k L (.inl i :: .inr (.inr (some (some q))) :: S) r M) ∧
  (∀ (k : Nat × Nat × Nat) (L S : List ai_V) (r : Nat → Int) (M : Nat → Nat → Int) (q nq j : Nat) (i v : ai_X), pt_tck Y mi k.1 q nq = true → j < nq → ai_vx r i = (j : Int) → P0 (k.1 + 1, k.2) L S r (pt_sto M q j (ai_vx r v)) → P0 k L (.inl v :: .inl i :: .inr (.inr (some (some q))) :: S) r M) ∧
  (∀ (k : Nat × Nat × Nat) (L S : List ai_V) (r : Nat → Int) (M : Nat → Nat → Int), (ai_gE r Y.1 → P0 k L S r M) → P0 k L S r M) ∧
  (∀ (k : Nat × Nat × Nat) (L S : List ai_V) (r : Nat → Int) (M : Nat → Nat → Int), gz_pw M → P k L S r M → P0 k L S r M)
theorem pt_introP {n mi : Nat} {Y : pt_Y} {aa L0 : List ai_V} {rt : Nat} {Pre : (Nat → Int) → (Nat → Nat → Int) → Prop} {Post : (Nat → Int) → (Nat → Nat → Int) → (Nat → Int) → (Nat → Nat → Int) → Option Int → Prop} (hpl : lh_plain mi = true) (hn : 4 ≤ n) (hs : pt_sys Y) (hL0 : ai_pad (ct_mt mi).2.2.1 aa = some L0) (hg : ((286, 5, 0) ∈ Y.2.2.1 ∧ (288, 40, 0) ∈ Y.2.2.1) ∧ (289, 40, 0) ∈ Y.2.2.1 ∧ (290, 2000, 0) ∈ Y.2.2.1) (hgx : pt_xk Y.2.2.1 = true)
    (body : ∀ (P P0 : pt_P) (r : Nat → Int) (M : Nat → Nat → Int), pt_Cl n mi Y rt (Post r M) P → ps_ST mi Y P → ps_T0 mi Y P P0 → Pre r M → P (0, 0, 0) L0 [] r M) : pt_Met (n + 1) mi Y aa Pre Post rt := by
  intro l D tyc A sa hl ws r ad H0 As M hPw hM hpre hWd hA
  have h336 : Y.2.1.1 = 336 := by
    have hwf := hs.2
    unfold pt_wf at hwf
    simp only [Bool.and_eq_true] at hwf
    exact Nat.eq_of_beq_eq_true hwf.2.1
  refine lh_met hpl L0 hL0 hWd (by rw [← h336] at hA; exact hA) (fun p e s m below meth c ls F hret hH hR => ?_)
  refine body _ (pt_W0 p l e s m As.toArray below meth c (vx_MQ below (pt_Q D tyc A sa ws ad Y (Post r M) rt) (fun _ _ _ => False) As.toArray s (lt_rm (n + 1) mi).cells (lt_rm (n + 1) mi).slots A) D tyc A sa ws ad n mi Y) r M (pt_W_cl (p := p) (l := l) (e := e) (below := below) (ws0 := ws) (ad0 := ad) hpl F hret hl hn hs) (fun k L S r M q nq j i v h1 h2 h3 h4 h5 => pt_stt_ok hpl F h1 h2 h3 h4 h5) ⟨fun k L S r M h => ?_, fun stop skip k L S r M sp cp le C Es h1 h2 h3 => pt_seg_ok0 hpl F hs h1 h2 h3, fun k L S r M q nq z j i h1 h2 h3 h4 => pt_ld_ok0 hpl F hs h1 h2 h3 h4, fun k L S r M q nq j i v h1 h2 h3 h4 => pt_st_ok0 hpl F h1 h2 h3 h4, fun k L S r M h => ?_, fun k L S r M h1 h2 => ?_⟩ hpre ws ad s.heap [] ls [] hPw pt_gh.rf hM ai_ext.rfl' hR
  · intro ws1 ad1 H locs ls1 st _ hgh hM1 hx hR1
    exact h ws1 ad1 H locs ls1 st hgh hM1 hx hR1
  · intro ws1 ad1 H locs ls1 st hgh hM1 hx hR1
    exact h hR1.env ws1 ad1 H locs ls1 st hgh hM1 hx hR1
  · intro ws1 ad1 H locs ls1 st hgh hM1 hx hR1
    exact h2 ws1 ad1 H locs ls1 st (pt_pw_of hg.1.1 hg.1.2 hg.2.1 hg.2.2 hM1 h1 (pt_px_gh hPw.2 hgh hM1 hgx)) hgh hM1 hx hR1
/-- what is copied so far -/
noncomputable def gb_cq (v a1 a2 a3 b c : Nat) (M : Nat → Nat → Int) : Nat → Nat → Int := fun z x =>
  if z = 286 ∧ x = v ∧ b = 1 then M 286 4 else if z = 287 ∧ 8 * v ≤ x ∧ x < 8 * v + a1 then M 287 (32 + (x - 8 * v)) else if z = 288 ∧ 8 * v ≤ x ∧ x < 8 * v + a2 then M 288 (32 + (x - 8 * v)) else if z = 289 ∧ 8 * v ≤ x ∧ x < 8 * v + a3 then M 289 (32 + (x - 8 * v)) else if z = 290 ∧ 400 * v ≤ x ∧ x < 400 * v + c then M 290 (1600 + (x - 400 * v)) else M z x
section GBT
variable {v a b c : Nat} {M : Nat → Nat → Int}
theorem gb_cq_0 : gb_cq v 0 0 0 0 0 M = M := by
  funext z x
  unfold gb_cq
  rw [if_neg (by omega), if_neg (by omega), if_neg (by omega), if_neg (by omega), if_neg (by omega)]
theorem gb_cq_t (hv : v < 4) {a1 a2 a3 : Nat} (h : a1 ≤ 8 ∧ a2 ≤ 8 ∧ a3 ≤ 8) (hc : c ≤ 400) {z x : Nat} (hz : (z = 286 ∧ x = 4) ∨ ((z = 287 ∨ z = 288 ∨ z = 289) ∧ 32 ≤ x) ∨ (z = 290 ∧ 1600 ≤ x)) : gb_cq v a1 a2 a3 b c M z x = M z x := by
  unfold gb_cq
  rw [if_neg (by omega), if_neg (by omega), if_neg (by omega), if_neg (by omega), if_neg (by omega)]
theorem gb_cq_b (hv : v < 4) : pt_sto (gb_cq v 0 0 0 0 0 M) 286 v (M 286 4) = gb_cq v 0 0 0 1 0 M := by
  funext z x
  unfold pt_sto gb_cq
  by_cases e : z = 286 ∧ x = v
  · rw [if_pos e, if_pos ⟨e.1, e.2, rfl⟩]
  · rw [if_neg e, if_neg (by omega), if_neg (by omega), if_neg (by omega), if_neg (by omega), if_neg (by omega)]
    rw [if_neg (by omega)]
theorem gb_cq_1 : pt_sto (gb_cq v a a a b c M) 287 (8 * v + a) (M 287 (32 + a)) = gb_cq v (a + 1) a a b c M := by
  funext z x
  unfold pt_sto gb_cq
  by_cases e : z = 287 ∧ x = 8 * v + a
  · rw [if_pos e, if_neg (by omega), if_pos (by omega), e.2, show 8 * v + a - 8 * v = a by omega]
  · rw [if_neg e]
    by_cases e2 : z = 287 ∧ 8 * v ≤ x ∧ x < 8 * v + a
    · rw [if_pos e2, if_pos (show z = 287 ∧ 8 * v ≤ x ∧ x < 8 * v + (a + 1) by omega)]
    · rw [if_neg e2, if_neg (show ¬ (z = 287 ∧ 8 * v ≤ x ∧ x < 8 * v + (a + 1)) by omega)]
theorem gb_cq_2 : pt_sto (gb_cq v (a + 1) a a b c M) 288 (8 * v + a) (M 288 (32 + a)) = gb_cq v (a + 1) (a + 1) a b c M := by
  funext z x
  unfold pt_sto gb_cq
  by_cases e : z = 288 ∧ x = 8 * v + a
  · rw [if_pos e, if_neg (by omega), if_neg (by omega), if_pos (by omega), e.2, show 8 * v + a - 8 * v = a by omega]
  · rw [if_neg e]
    by_cases e2 : z = 288 ∧ 8 * v ≤ x ∧ x < 8 * v + a
    · rw [if_pos e2, if_pos (show z = 288 ∧ 8 * v ≤ x ∧ x < 8 * v + (a + 1) by omega)]
    · rw [if_neg e2, if_neg (show ¬ (z = 288 ∧ 8 * v ≤ x ∧ x < 8 * v + (a + 1)) by omega)]
theorem gb_cq_3 : pt_sto (gb_cq v (a + 1) (a + 1) a b c M) 289 (8 * v + a) (M 289 (32 + a)) = gb_cq v (a + 1) (a + 1) (a + 1) b c M := by
  funext z x
  unfold pt_sto gb_cq
  by_cases e : z = 289 ∧ x = 8 * v + a
  · rw [if_pos e, if_neg (by omega), if_neg (by omega), if_neg (by omega), if_pos (by omega), e.2, show 8 * v + a - 8 * v = a by omega]
  · rw [if_neg e]
    by_cases e2 : z = 289 ∧ 8 * v ≤ x ∧ x < 8 * v + a
    · rw [if_pos e2, if_pos (show z = 289 ∧ 8 * v ≤ x ∧ x < 8 * v + (a + 1) by omega)]
    · rw [if_neg e2, if_neg (show ¬ (z = 289 ∧ 8 * v ≤ x ∧ x < 8 * v + (a + 1)) by omega)]
theorem gb_cq_4 {a1 a2 a3 : Nat} : pt_sto (gb_cq v a1 a2 a3 b c M) 290 (400 * v + c) (M 290 (1600 + c)) = gb_cq v a1 a2 a3 b (c + 1) M := by
  funext z x
  unfold pt_sto gb_cq
  by_cases e : z = 290 ∧ x = 400 * v + c
  · rw [if_pos e, if_neg (by omega), if_neg (by omega), if_neg (by omega), if_neg (by omega), if_pos (by omega), e.2, show 400 * v + c - 400 * v = c by omega]
  · rw [if_neg e]
    by_cases e2 : z = 290 ∧ 400 * v ≤ x ∧ x < 400 * v + c
    · rw [if_pos e2, if_pos (show z = 290 ∧ 400 * v ≤ x ∧ x < 400 * v + (c + 1) by omega)]
    · rw [if_neg e2, if_neg (show ¬ (z = 290 ∧ 400 * v ≤ x ∧ x < 400 * v + (c + 1)) by omega)]
end GBT
