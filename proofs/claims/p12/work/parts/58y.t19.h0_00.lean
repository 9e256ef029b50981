/-! TEXTS (the reference): a store into the offers' place that is only for a reading -/
noncomputable def gz_tmp (q j : Nat) : Prop := (q = 286 ∧ j = 4) ∨ (q = 288 ∧ 32 ≤ j) ∨ (q = 289 ∧ 32 ≤ j) ∨ (q = 290 ∧ 1600 ≤ j)
theorem pt_pwt0 {tyc : Nat → ClassId} {ws ws' : va_W} {q j nq : Nat} {f f' : Nat → Int32} (h : ai_Pq tyc ws) (hw : hg_ia tyc ws q nq f) (h1 : hg_ia tyc ws' q nq f') (hf : ∀ x, x ≠ j → f' x = f x) (g : ∀ x, x ≠ q - 16 → ws'[x]? = ws[x]?) (hj : gz_tmp q j) : ai_Pq tyc ws' := by
  intro hne
  obtain ⟨a0, hw⟩ := hw
  have hne' : ws[274]? ≠ none := by
    rcases hj with ⟨e, -⟩ | ⟨e, -⟩ | ⟨e, -⟩ | ⟨e, -⟩
    · rw [← g 274 (by omega)]
      exact hne
    · rw [← g 274 (by omega)]
      exact hne
    · rw [← g 274 (by omega)]
      exact hne
    · subst e
      have hw : ws[274]? = some _ := hw
      rw [hw]
      intro z
      cases z
  obtain ⟨f1, f2, f3, f4, ⟨b1, k1⟩, ⟨b2, k2⟩, ⟨b3, k3⟩, ⟨b4, k4⟩, k5⟩ := h hne'
  rcases hj with ⟨rfl, rfl⟩ | ⟨rfl, hj⟩ | ⟨rfl, hj⟩ | ⟨rfl, hj⟩
  · have hw : ws[270]? = some (a0, .inl (tyc 0, nq, .inl f)) := hw
    rw [k1] at hw
    cases hw
    refine ⟨f', f2, f3, f4, h1, ⟨b2, (g _ (by omega)).trans k2⟩, ⟨b3, (g _ (by omega)).trans k3⟩, ⟨b4, (g _ (by omega)).trans k4⟩, fun m hm => ?_⟩
    rw [hf m (by omega)]
    exact k5 m hm
  · have hw : ws[272]? = some (a0, .inl (tyc 0, nq, .inl f)) := hw
    rw [k2] at hw
    cases hw
    refine ⟨f1, f', f3, f4, ⟨b1, (g _ (by omega)).trans k1⟩, h1, ⟨b3, (g _ (by omega)).trans k3⟩, ⟨b4, (g _ (by omega)).trans k4⟩, fun m hm => ⟨(k5 m hm).1, fun k hk => ?_⟩⟩
    have := (k5 m hm).1
    rw [hf _ (by omega)]
    exact (k5 m hm).2 k hk
  · have hw : ws[273]? = some (a0, .inl (tyc 0, nq, .inl f)) := hw
    rw [k3] at hw
    cases hw
    refine ⟨f1, f2, f', f4, ⟨b1, (g _ (by omega)).trans k1⟩, ⟨b2, (g _ (by omega)).trans k2⟩, h1, ⟨b4, (g _ (by omega)).trans k4⟩, fun m hm => ⟨(k5 m hm).1, fun k hk => ?_⟩⟩
    have := (k5 m hm).1
    rw [hf _ (by omega)]
    exact (k5 m hm).2 k hk
  · have hw : ws[274]? = some (a0, .inl (tyc 0, nq, .inl f)) := hw
    rw [k4] at hw
    cases hw
    refine ⟨f1, f2, f3, f', ⟨b1, (g _ (by omega)).trans k1⟩, ⟨b2, (g _ (by omega)).trans k2⟩, ⟨b3, (g _ (by omega)).trans k3⟩, h1, fun m hm => ⟨(k5 m hm).1, fun k hk => ?_⟩⟩
    obtain ⟨i, j', d1, d2, d3, d4, d5⟩ := (k5 m hm).2 k hk
    exact ⟨i, j', d1, d2, d3, d4, pw_cg (fun q hq => by rw [hf (400 * m + q) (by omega)]) d5⟩
theorem pt_pwt {tyc : Nat → ClassId} {ws ws' : va_W} {q j nq : Nat} {f f' : Nat → Int32} (h : ai_Pw tyc ws) (hw : hg_ia tyc ws q nq f) (h1 : hg_ia tyc ws' q nq f') (hf : ∀ x, x ≠ j → f' x = f x) (g : ∀ x, x ≠ q - 16 → ws'[x]? = ws[x]?) (hj : gz_tmp q j) : ai_Pw tyc ws' := ⟨pt_pwt0 h.1 hw h1 hf g hj, h.2.st hw h1 g⟩
noncomputable def pt_tck (Y : pt_Y) (mi pc q n : Nat) : Bool := (pt_is 2 mi pc && pt_gq Y.2.2.1 q n 0) && (Nat.ble 16 q && (ai_cell Y.2.1 q).isNone)
section PTT
variable {p : Program} {l : Launch} {e : Env} {s : State} {m : MethodId} {args : Array Value} {below : List Frame} {meth : Method} {c : Code} {Q : State → Prop}
variable {D : va_G} {tyc : Nat → ClassId} {A : Nat → Prop} {sa : ai_B} {ws0 : va_W} {ad0 : Nat → Nat} {n mi : Nat} {Y : pt_Y} {k : Nat × Nat × Nat}
variable {L S : List ai_V} {r : Nat → Int} {M : Nat → Nat → Int}
theorem pt_stt_ok (hpl : lh_plain mi = true) (F : ls_Fr p (lt_rm (n + 1) mi) s m args meth c D tyc A sa mi) {q nq j : Nat} {i v : ai_X} (hck : pt_tck Y mi k.1 q nq = true) (hj : j < nq) (hi : ai_vx r i = (j : Int)) (htm : gz_tmp q j)
    (hk : pt_W p l e s m args below meth c Q D tyc A sa ws0 ad0 n mi Y (k.1 + 1, k.2) L S r (pt_sto M q j (ai_vx r v))) :
    pt_W p l e s m args below meth c Q D tyc A sa ws0 ad0 n mi Y k L (.inl v :: .inl i :: .inr (.inr (some (some q))) :: S) r M := by
  intro ws ad H locs ls st hPw hgh hM hx hR
  unfold pt_tck at hck
  simp only [Bool.and_eq_true, Option.isNone_iff_eq_none] at hck
  obtain ⟨⟨c1, c2⟩, c3, c4⟩ := hck
  have c3 := Nat.le_of_ble_eq_true c3
  obtain ⟨m1, m2, m3⟩ := pt_gq_ok c2
  unfold lh_plain at hpl
  simp only [Bool.and_eq_true, Bool.not_eq_true'] at hpl
  obtain ⟨p1, p3⟩ := hpl
  obtain ⟨mok, htab⟩ := ls_known p1
  obtain ⟨ia, ib, ec⟩ := pt_is2 c1
  obtain ⟨hdg, -, -, -, -⟩ := htab _ _ _ _ _ ec
  obtain ⟨f, hw, hf⟩ : ∃ f, hg_ia tyc ws q nq f ∧ ∀ j, j < nq → (f j).toInt = M q j := hM (q, nq, 0) m1
  refine hg_iast (G := (Y.1, Y.2.1, k.2.1, k.2.2)) F hdg hR c3 c4 hw hj hi (fun ws1 H1 locs1 st' f' g1 g2 g3 g4 hR' => ?_)
  exact hk ws1 ad H1 locs1 ls st' (pt_pwt hPw hw g1 g3 g4 htm) (pt_ghst c2 hgh g4) (pt_Mst c2 hM g4 ⟨f', g1, fun b hb => by
    show (f' b).toInt = if q = q ∧ b = j then ai_vx r v else M q b
    by_cases e : b = j
    · rw [if_pos ⟨rfl, e⟩, e, g2]
    · rw [if_neg (fun w => e w.2), g3 b e, hf b hb]⟩) hx hR'
end PTT
noncomputable def ps_ST (mi : Nat) (Y : pt_Y) (P : pt_P) : Prop := ∀ (k : Nat × Nat × Nat) (L S : List ai_V) (r : Nat → Int) (M : Nat → Nat → Int) (q nq j : Nat) (i v : ai_X), pt_tck Y mi k.1 q nq = true → j < nq → ai_vx r i = (j : Int) → gz_tmp q j → P (k.1 + 1, k.2) L S r (pt_sto M q j (ai_vx r v)) → P k L (.inl v :: .inl i :: .inr (.inr (some (some q))) :: S) r M
theorem pt_introT {n mi : Nat} {Y : pt_Y} {aa L0 : List ai_V} {rt : Nat} {Pre : (Nat → Int) → (Nat → Nat → Int) → Prop} {Post : (Nat → Int) → (Nat → Nat → Int) → (Nat → Int) → (Nat → Nat → Int) → Option Int → Prop} (hpl : lh_plain mi = true) (hn : 4 ≤ n) (hs : pt_sys Y) (hL0 : ai_pad (ct_mt mi).2.2.1 aa = some L0)
    (body : ∀ (P : pt_P) (r : Nat → Int) (M : Nat → Nat → Int), pt_Cl n mi Y rt (Post r M) P → ps_ST mi Y P → Pre r M → P (0, 0, 0) L0 [] r M) : pt_Met (n + 1) mi Y aa Pre Post rt := by
  intro l D tyc A sa hl ws r ad H0 As M hPw hM hpre hWd hA
  have h336 : Y.2.1.1 = 336 := by
    have hwf := hs.2
    unfold pt_wf at hwf
    simp only [Bool.and_eq_true] at hwf
    exact Nat.eq_of_beq_eq_true hwf.2.1
  refine lh_met hpl L0 hL0 hWd (by rw [← h336] at hA; exact hA) (fun p e s m below meth c ls F hret hH hR => ?_)
  exact body _ r M (pt_W_cl (p := p) (l := l) (e := e) (below := below) (ws0 := ws) (ad0 := ad) hpl F hret hl hn hs) (fun k L S r M q nq j i v h1 h2 h3 h4 h5 => pt_stt_ok hpl F h1 h2 h3 h4 h5) hpre ws ad s.heap [] ls [] hPw pt_gh.rf hM ai_ext.rfl' hR
