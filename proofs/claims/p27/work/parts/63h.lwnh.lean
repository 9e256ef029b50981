/-! n minutes of the class, as a method -/
section NFH
variable {l : Launch} {D : va_G} {tyc : Nat → ClassId} {A : Nat → Prop} {sa : ai_B} {ws : va_W} {n nL : Nat}
variable {r r2 : Nat → Int} {ad : Nat → Nat}
theorem nf_gV2 {N nn : Nat} {a : ai_V} {v : Value} (hv : ∀ x, a = .inl x ∨ a = .inr (.inl x) → ai_vx r2 x = ai_vx r x) (g : ai_gV r ad N nn a v) : ai_gV r2 ad N nn a v := by
  rcases a with x | x | _ | _ | q
  · obtain ⟨q1, q2, q3, q4⟩ := g
    exact ⟨q1, q2, q3, by rw [hv x (Or.inl rfl)]; exact q4⟩
  · obtain ⟨q1, q2, q3, q4⟩ := g
    exact ⟨q1, q2, q3, by rw [hv x (Or.inr rfl)]; exact q4⟩
  · exact g
  · exact g
  · exact g
theorem nf_gF2 {N nn : Nat} : ∀ {S : List ai_V} {st : List Value}, (∀ b ∈ S, ∀ x, b = .inl x ∨ b = .inr (.inl x) → ai_vx r2 x = ai_vx r x) → ai_gF r ad N nn S st → ai_gF r2 ad N nn S st
  | [], [], _, _ => trivial
  | a :: S, v :: st, hv, g => ⟨nf_gV2 (hv a List.mem_cons_self) g.1, nf_gF2 (fun b hb => hv b (List.mem_cons_of_mem _ hb)) g.2⟩
  | [], _ :: _, _, g => g.elim
  | _ :: _, [], _, g => g.elim
theorem nf_n2 {G : ai_G} {q : Int × Int} : (hg_new G q).2 = G.2 := by
  obtain ⟨⟨N, lb, ds⟩, G2⟩ := G
  rfl
theorem nf_pass {H0 : Heap} {As : List Value} (hn : 4 ≤ n) (hl : l.stackTraces = false) (hPw : ai_Pw tyc ws) (hnn : 0 ≤ r 399 ∧ 0 ≤ r 105 ∧ r 105 + r 399 ≤ 1000) {k : Nat} (hk : r 399 = (k : Int)) (hWd : ai_Wd D tyc A sa ws r ad nf_Gc H0) (hA : ai_gF r ad nf_Gc.1.1 nf_Gc.2.1.1 [.inr (.inr (some (some 193))), .inl (399, 0)] As) :
    vx_Met l (ct_mt 56).1 (ai_cw (ct_mt 56) :: ft_W) (lt_rm (n + 2) 56) (fun a U => a = As.toArray ∧ U.heap = H0 ∧ ai_St D tyc A sa ct_strs ft_N U ∧ ∀ q, H0.size ≤ q → A q) (nf_Qp D tyc A sa ws r ad nf_hc k) (fun _ _ _ => False) (lt_rm (n + 2) 56).cells (lt_rm (n + 2) 56).slots A := by
  refine lh_met (n := n + 1) nf_plp (nf_Lp (.inr (.inr none))) (by
    have e : (ct_mt 56).2.2.1 = 3 := by decide +kernel
    rw [e]
    rfl) hWd hA (fun p e s m below meth c ls F hret hH hR => ?_)
  have hN := nf_EN.1
  have hE : ai_gE r nf_E := hR.env
  refine lh_ok (n := n + 1) (G := nf_Gc) (k0 := 0) (T := []) nf_plp F hl trivial (by omega) hPw nf_k9 hR (fun f hf r1 ad1 x1 x2 x3 x4 H1 locs1 ls1 st1 hR1 => ?_)
  have x1 : ai_ext nf_E.1 r r1 := x1
  have x2 : ai_ext 336 ad ad1 := x2
  rw [hN] at x1
  unfold nf_c9 at hf
  simp only [Bool.and_eq_true] at hf
  obtain ⟨⟨f1, f2⟩, f3, f4⟩ := hf
  obtain ⟨z1, z2⟩ := cy_z_ok f2
  have R2 := nf_re (fin := nf_i (nf_it 0 r) ((0 : Nat) : Int)) nf_wfp hE x1 hR1 f3 (fun t ht hp => by
    have h2 := hp (400, 0, 2) List.mem_cons_self
    exact nf_iK (fun q => h2 q.symm)) (fun q hq => by
    rcases List.mem_cons.mp hq with rfl | hq
    · rw [cx_q_ok f4]
      show (if 400 = 400 then _ else _) = r1 0 + 0
      rw [if_pos rfl, hR1.env.1]
      rfl
    · cases hq)
  have hst1 := nf_nil R2.stk
  subst hst1
  rw [Nat.eq_of_beq_eq_true f1, z1, z2]
  exact nf_ploop hn hl hPw F hret hnn hk k 0 ad1 H1 locs1 ls1 (by omega) (by omega) R2 x2
end NFH
