/-! THE PARSER: an expression within six others; the recursion closed -/
noncomputable def x6_c (f : ai_F) : Bool := pz_to [] 64 (pz_L3 6) [.inl (0, .ofNat 6), pz_this] [(14, (0, 1)), (15, (12, 0))] f || pz_to [] 64 (pz_L3 6) [.inl (0, .ofNat 6), pz_this] [(14, (0, 2)), (15, (12, 0))] f
theorem x6_k : pz_sc [] 201 [64, 7] false 0 (pz_L3 6) [] [] [(14, (0, 0))] x6_c = true := by decide +kernel
theorem x6_k2 : pz_sc [] 201 [78, 95] true 67 (pz_L3 6) [] [] [(14, (1, 3))] (pz_to [] 95 (pz_us (pz_L3 6)) [] []) = true := by decide +kernel
theorem x6_k3 : pz_ck 201 64 200 [.inl (0, .ofNat 6), pz_this] [pz_this, .inl (0, .ofNat 6)] [] = true := by decide +kernel
theorem x6_k4 : pz_sc [] 201 [64, 7] false 0 (pz_L3 6) [] [] [(14, (1, 3))] (pz_to [] 7 (pz_us (pz_L3 6)) [] []) = true := by decide +kernel
section X6
variable {n M M' : Nat}
set_option maxHeartbeats 2000000 in
theorem pz_expr6 (hn : 45 ≤ n) (hsub : ∀ vs : List Int32, vs.map Int32.toInt = [.ofNat 6] → pz_Ct n 200 false vs (pz_XP false) (pz_X M')) : ∀ vs : List Int32, vs.map Int32.toInt = [.ofNat 6] → pz_Ct (n + 1) 201 false vs (pz_XP true) (pz_X M) := by
  obtain ⟨⟨l1, l2, l3, l4, l5, l6, l7, l8⟩, ⟨b1, b2, b3, b4, b5, b6, b7, b8⟩, ⟨n1, n2, n3, n4, n5, n6, n7, n8⟩, v1q, v3, v4, v5, v6, v7, v8⟩ := pz_pl
  obtain ⟨d1, d2, d3, d4, d5, d6, d7, d8, d9, d10⟩ := pz_dc
  intro vs hvs
  have evs : vs = [(.ofNat 6 : Int)].map Int32.ofInt := by
    obtain ⟨v, l', rfl, h1, h2⟩ := List.map_eq_cons_iff.mp hvs
    have h2 := List.map_eq_nil_iff.mp h2
    subst h2
    rw [← h1]
    show [v] = [Int32.ofInt v.toInt]
    rw [Int32.ofInt_toInt]
  rw [evs]
  refine pz_new (n := n) (nb := []) (aa := [pz_this, .inl (0, .ofNat 6)]) (L0 := pz_L3 6) (fun _ => True) l8 (by rw [n8]; rfl) (fun r ad hE => pz_in0 (tail := [.ofNat 6]) (by decide +kernel) r ad hE) (fun l D tyc A sa hl ws g r0 r ad hW hPre hx _ p e s m args below meth c ls F hret hR => ?_)
  have hx1 : ∀ t, 1 ≤ t → t < 44 → r t = r0 t := fun t _ h2 => hx t h2
  have hb := pz_bd (nb := []) hR.env
  by_cases h14 : r 14 = 0
  · have h0 : r0 14 = 0 := (hx 14 (by omega)).symm.trans h14
    refine pz_seg (k0 := 0) x6_k l8 F hl (show lt_all 0 [] from trivial) (by omega) hW hR (pz_cap1 (by omega) (by omega)) (fun f hf r' ad' x1 x2 H' locs' ls' st' hR' => ?_)
    have bad : ∀ v : Int, (1 ≤ v ∧ v ≤ 2) → pz_to [] 64 (pz_L3 6) [.inl (0, .ofNat 6), pz_this] [(14, (0, v)), (15, (12, 0))] f = true → W p l e (lt_rm (n + 1) 201) s m args below meth c H' locs' f.2.2.2.2.2.1 f.2.2.2.2.2.2 (pz_Q below D tyc A sa ws r0 g ad args s n 201 (pz_X M)) (F0 m f.1 ls' st') := fun v hv1 hf => by
      obtain ⟨e1, e2, e3, r1, hR1, u1, u2⟩ := pz_to_ok hf x2 hR'
      rw [e1, e2, e3]
      have e14 : r1 14 = v := by
        have : r1 14 = r' 0 + v := u2 _ List.mem_cons_self
        rw [this, hR'.env.1]
        omega
      have ne14 : r1 14 ≠ 0 := by omega
      have vf : pz_fx r0 r1 := fun t h1 h2 h3 => (u1 t h1 h2 (pz_ne2n h3)).trans ((x1 t h2).trans (hx1 t h1 h2))
      refine pz_callv (xs := [(0, .ofNat 6)]) l8 l7 (by omega) b7 F hl x6_k3 hW hR1 rfl rfl (fun vs hvs => hsub vs (hvs.trans ?_)) (fun q => absurd q ne14) (Pre := pz_XP false) (Post := pz_X M') (fun ws' g' r2 H2 locs2 rest m1 m2 m3 hR2 => ?_)
      · show [ai_vx r1 (0, .ofNat 6)] = [.ofNat 6]
        rw [pz_cst hR1.env.1]
      · obtain ⟨y1, y2⟩ := m3.1 ne14
        have w : ∀ t, 1 ≤ t → t < 44 → pz_mix r2 r1 t = r1 t := fun t h1 h2 => by rw [pz_mixv h2, y1 t h1 h2]
        have w14 := w 14 (by omega) (by omega)
        refine pz_seg (k0 := 0) x6_k2 l8 F hl (show lt_all 0 [] from trivial) (by omega) m2 hR2 (pz_cap1 (by omega) (by omega)) (fun f hf r' ad' x1 x2 H' locs' ls' st' hR' => ?_)
        obtain ⟨e1, e2, e3, r3, hR3, u1, u2⟩ := pz_to_ok hf x2 hR'
        rw [e1, e2, e3]
        have v3 : ∀ t, 1 ≤ t → t < 44 → r3 t = r1 t := fun t h1 h2 => (pz_un x1 u1 t h1 h2).trans (w t h1 h2)
        refine pz_ret (Post := pz_X M) rfl F hret d5 v8 m1 m2 hR3 ⟨fun q => absurd h0 q, fun _ => ⟨⟨fun q _ => by rw [y2], vf.cg v3⟩, fun q => absurd q ?_⟩⟩
        rw [v3 14 (by omega) (by omega)]
        exact ne14
    unfold x6_c at hf
    rw [Bool.or_eq_true] at hf
    rcases hf with hf | hf
    · exact bad 1 ⟨by omega, by omega⟩ hf
    · exact bad 2 ⟨by omega, by omega⟩ hf
  · have h0 : r0 14 ≠ 0 := by
      rw [← hx 14 (by omega)]
      exact h14
    refine pz_seg (k0 := 0) x6_k4 l8 F hl (show lt_all 0 [] from trivial) (by omega) hW hR (pz_cap1 (by omega) (by omega)) (fun f hf r' ad' x1 x2 H' locs' ls' st' hR' => ?_)
    obtain ⟨e1, e2, e3, r3, hR3, u1, u2⟩ := pz_to_ok hf x2 hR'
    rw [e1, e2, e3]
    exact pz_ret (Post := pz_X M) rfl F hret d4 v8 pz_sm.rf hW hR3 ⟨fun _ => ⟨fun t h1 h2 => (pz_un x1 u1 t h1 h2).trans (hx1 t h1 h2), rfl⟩, fun q => absurd q h0⟩
end X6
theorem pz_tree : ∀ d, d ≤ 6 → ∀ vs : List Int32, vs.map Int32.toInt = [.ofNat (6 - d)] → pz_Ct (51 + 6 * d) 201 false vs (pz_XP true) (pz_X (6 + 5 * d)) := by
  intro d
  induction d with
  | zero =>
    intro _
    have k1 := pz_part (a := 6) (n := 45) (M := 1) (b := false) (by omega) (by omega) (fun q => by cases q) (by omega)
    have k2 := pz_prod (a := 6) (M := 2) (by omega) (by omega) k1 (by omega) (by omega)
    have k3 := pz_sum (a := 6) (M := 3) (by omega) (by omega) k2 (by omega) (by omega)
    have k4 := pz_not (a := 6) (M := 4) (by omega) (by omega) k3 (by omega) (by omega)
    have k5 := pz_and (a := 6) (M := 5) (by omega) (by omega) k4 (by omega) (by omega)
    exact pz_expr6 (M := 6) (by omega) k5
  | succ d ih =>
    intro hd
    have hE := ih (by omega)
    have ea : 6 - d = (6 - (d + 1)) + 1 := by omega
    rw [ea] at hE
    have k1 := pz_part (a := 6 - (d + 1)) (n := 51 + 6 * d) (M := 6 + 5 * d) (b := true) (by omega) (by omega) (fun _ => hE) (by omega)
    have k2 := pz_prod (a := 6 - (d + 1)) (M := 6 + 5 * d + 1) (by omega) (by omega) k1 (by omega) (by omega)
    have k3 := pz_sum (a := 6 - (d + 1)) (M := 6 + 5 * d + 2) (by omega) (by omega) k2 (by omega) (by omega)
    have k4 := pz_not (a := 6 - (d + 1)) (M := 6 + 5 * d + 3) (by omega) (by omega) k3 (by omega) (by omega)
    have k5 := pz_and (a := 6 - (d + 1)) (M := 6 + 5 * d + 4) (by omega) (by omega) k4 (by omega) (by omega)
    have k6 := pz_expr (a := 6 - (d + 1)) (M := 6 + 5 * d + 5) (by omega) (by omega) k5 (by omega) (by omega)
    exact k6
theorem pz_expr0 : ∀ vs : List Int32, vs.map Int32.toInt = [.ofNat 0] → pz_Ct 87 201 false vs (pz_XP true) (pz_X 36) := pz_tree 6 (by omega)
