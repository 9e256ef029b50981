/-! A CONTRACT OUT OF PARTS: the bounds of one of its numbers told apart -/
theorem lt_nb_get {q : Nat × Int × Int} : ∀ {l : List (Int × Int)} {k : Nat}, q ∈ sm_nb k l → ∃ i b, l[i]? = some b ∧ q = (k + i, b)
  | [], _, h => by cases h
  | b :: l, k, h => by
    rcases List.mem_cons.mp h with rfl | h
    · exact ⟨0, b, rfl, rfl⟩
    · obtain ⟨i, c, h1, h2⟩ := lt_nb_get (l := l) (k := k + 1) h
      exact ⟨i + 1, c, by rw [List.getElem?_cons_succ]; exact h1, by rw [h2, Nat.add_assoc, Nat.add_comm 1 i]⟩
theorem lt_nb_mem {b : Int × Int} : ∀ {l : List (Int × Int)} {k i : Nat}, l[i]? = some b → (k + i, b) ∈ sm_nb k l
  | [], _, _, h => by cases h
  | c :: l, k, 0, h => by
    cases h
    exact List.mem_cons_self
  | c :: l, k, i + 1, h => by
    have := lt_nb_mem (k := k + 1) (i := i) (l := l) (by rw [List.getElem?_cons_succ] at h; exact h)
    rw [show k + (i + 1) = k + 1 + i by omega]
    exact List.mem_cons_of_mem _ this
/-- intervals that cover one -/
noncomputable def lc_cov (b : Int × Int) : List (Int × Int) → Bool
  | [] => ai_le (b.2 + 1) b.1
  | c :: t => ai_eq c.1 b.1 && (ai_le c.1 c.2 && (ai_le c.2 b.2 && lc_cov (c.2 + 1, b.2) t))
theorem lc_cov_ok {v : Int} : ∀ {bs : List (Int × Int)} {b : Int × Int}, lc_cov b bs = true → b.1 ≤ v → v ≤ b.2 → ∃ c ∈ bs, (c.1 ≤ v ∧ v ≤ c.2)
  | [], b, h, h1, h2 => by
    have := ai_le_iff.mp h
    omega
  | c :: t, b, h, h1, h2 => by
    unfold lc_cov at h
    simp only [Bool.and_eq_true] at h
    obtain ⟨g1, g0, g2, g3⟩ := h
    have g1 := ai_eq_iff.mp g1
    by_cases hv : v ≤ c.2
    · exact ⟨c, List.mem_cons_self, by omega, hv⟩
    · obtain ⟨d, k1, k2⟩ := lc_cov_ok g3 (show c.2 + 1 ≤ v by omega) h2
      exact ⟨d, List.mem_cons_of_mem _ k1, k2⟩
theorem lc_cov_sub : ∀ {bs : List (Int × Int)} {b : Int × Int}, lc_cov b bs = true → ∀ c ∈ bs, (b.1 ≤ c.1 ∧ c.2 ≤ b.2)
  | [], _, _, c, hc => by cases hc
  | d :: t, b, h, c, hc => by
    unfold lc_cov at h
    simp only [Bool.and_eq_true] at h
    obtain ⟨g1, g0, g2, g3⟩ := h
    have g1 := ai_eq_iff.mp g1
    have g0 := ai_le_iff.mp g0
    have g2 := ai_le_iff.mp g2
    rcases List.mem_cons.mp hc with rfl | hc
    · omega
    · have h1 : d.2 + 1 ≤ c.1 ∧ c.2 ≤ b.2 := lc_cov_sub g3 c hc
      omega
theorem lt_each0 {P : Int × Int → Prop} : ∀ c ∈ ([] : List (Int × Int)), P c := fun c hc => by cases hc
theorem lt_each {n mi : Nat} {C S : us_C} {pre1 pre2 bs : List (Int × Int)} {b : Int × Int} (h : lt_ok n mi S) (e : S.1 = pre1 ++ b :: pre2 ∧ S.2 = C.2) (ht : ∀ c ∈ bs, ∃ S : us_C, lt_ok n mi S ∧ S.1 = pre1 ++ c :: pre2 ∧ S.2 = C.2) : ∀ c ∈ b :: bs, ∃ S : us_C, lt_ok n mi S ∧ S.1 = pre1 ++ c :: pre2 ∧ S.2 = C.2 := fun c hc => by
  rcases List.mem_cons.mp hc with rfl | hc
  · exact ⟨S, h, e.1, e.2⟩
  · exact ht c hc
theorem lt_gE {r : Nat → Int} {nb : List (Int × Int)} {l l' : List (Int × Int)} (hlen : l'.length = l.length) (hb : ∀ i b', l'[i]? = some b' → b'.1 ≤ r (1 + i) ∧ r (1 + i) ≤ b'.2) (h : ai_gE r (sm_E (sm_E (1, [], []) l) nb)) : ai_gE r (sm_E (sm_E (1, [], []) l') nb) := by
  have hN : (sm_E (1, [], []) l').1 = (sm_E (1, [], []) l).1 := by
    show 1 + l'.length = 1 + l.length
    rw [hlen]
  have hN2 : (sm_E (sm_E (1, [], []) l') nb).1 = (sm_E (sm_E (1, [], []) l) nb).1 := by
    show (sm_E (1, [], []) l').1 + nb.length = (sm_E (1, [], []) l).1 + nb.length
    rw [hN]
  refine ⟨h.1, by rw [hN2]; exact h.2.1, fun t ht => h.2.2.1 t (by rw [← hN2]; exact ht), fun q hq => ?_, fun q hq => by cases hq⟩
  rcases List.mem_append.mp hq with hq | hq
  · rw [hN] at hq
    have := h.2.2.2.1 q (List.mem_append_left _ hq)
    rw [hN2]
    exact this
  · rcases List.mem_append.mp hq with hq | hq
    · obtain ⟨i, b', h1, h2⟩ := lt_nb_get hq
      have hi : i < l'.length := (List.getElem?_eq_some_iff.mp h1).1
      subst h2
      refine ⟨?_, hb i b' h1⟩
      show 1 + i < 1 + l'.length + nb.length
      omega
    · cases hq
theorem lt_gE0 {r : Nat → Int} {l : List (Int × Int)} : ai_gE r (sm_E (sm_E (1, [], []) l) []) ↔ ai_gE r (sm_E (1, [], []) l) := Iff.rfl
/-- bounds of one number told apart -/
theorem lt_split {n mi : Nat} {C : us_C} {pre1 pre2 bs : List (Int × Int)} {b : Int × Int} (hC : C.1 = pre1 ++ b :: pre2) (hcov : lc_cov b bs = true) (hall : ∀ c ∈ bs, ∃ S : us_C, lt_ok n mi S ∧ S.1 = pre1 ++ c :: pre2 ∧ S.2 = C.2) (hck : us_ck C = true) (hmok : ai_mok ft_W (ct_mt mi)) : lt_ok n mi C := by
  obtain ⟨pre, aa, h, outs⟩ := C
  have hC : pre = pre1 ++ b :: pre2 := hC
  subst hC
  refine ⟨hck, hmok, fun l D tyc A sa hl ws0 r ad H0 As hPw hWd hA => ?_⟩
  obtain ⟨ws, hP, hD, hE, hH, hO, hsa⟩ := hWd
  have hE : ai_gE r (sm_E (1, [], []) (pre1 ++ b :: pre2)) := hE
  have get : ∀ {nb : List (Int × Int)} {r : Nat → Int} {l : List (Int × Int)}, ai_gE r (sm_E (sm_E (1, [], []) l) nb) → ∀ i b', l[i]? = some b' → b'.1 ≤ r (1 + i) ∧ r (1 + i) ≤ b'.2 := fun {nb r l} h i b' hi => by
    have := (h.2.2.2.1 (1 + i, b') (List.mem_append_right _ (List.mem_append_left _ (lt_nb_mem hi)))).2
    exact this
  have hb := get (nb := []) hE pre1.length b (by rw [List.getElem?_append_right (Nat.le_refl _), Nat.sub_self]; rfl)
  obtain ⟨c, hc, hv⟩ := lc_cov_ok hcov hb.1 hb.2
  obtain ⟨S, hS, e1, e2⟩ := hall c hc
  obtain ⟨pS, S2⟩ := S
  have e1 : pS = pre1 ++ c :: pre2 := e1
  have e2 : S2 = (aa, h, outs) := e2
  subst e1
  subst e2
  have hlen : ∀ x y : Int × Int, (pre1 ++ x :: pre2).length = (pre1 ++ y :: pre2).length := fun x y => by simp
  have other : ∀ (x y : Int × Int) (i : Nat) (b' : Int × Int), i ≠ pre1.length → (pre1 ++ x :: pre2)[i]? = some b' → (pre1 ++ y :: pre2)[i]? = some b' := fun x y i b' hi h1 => by
    by_cases hlt : i < pre1.length
    · rw [List.getElem?_append_left hlt] at h1 ⊢
      exact h1
    · rw [List.getElem?_append_right (by omega)] at h1 ⊢
      obtain ⟨k, hk⟩ : ∃ k, i - pre1.length = k + 1 := ⟨i - pre1.length - 1, by omega⟩
      rw [hk, List.getElem?_cons_succ] at h1 ⊢
      exact h1
  have self : ∀ (x : Int × Int), (pre1 ++ x :: pre2)[pre1.length]? = some x := fun x => by rw [List.getElem?_append_right (Nat.le_refl _), Nat.sub_self]; rfl
  have hEc : ai_gE r (sm_E (1, [], []) (pre1 ++ c :: pre2)) := lt_gE0.mp (lt_gE (hlen c b) (fun i b' hi => by
    by_cases hi0 : i = pre1.length
    · subst hi0
      rw [self c] at hi
      cases hi
      exact hv
    · exact get (nb := []) hE i b' (other c b i b' hi0 hi)) (lt_gE0.mpr hE))
  have hN : ∀ nb, (sm_E (sm_E (1, [], []) (pre1 ++ c :: pre2)) nb).1 = (sm_E (sm_E (1, [], []) (pre1 ++ b :: pre2)) nb).1 := fun nb => by
    show 1 + (pre1 ++ c :: pre2).length + nb.length = 1 + (pre1 ++ b :: pre2).length + nb.length
    rw [hlen c b]
  have hN0 : (sm_E (1, [], []) (pre1 ++ c :: pre2)).1 = (sm_E (1, [], []) (pre1 ++ b :: pre2)).1 := hN []
  have hWc : ai_Wd D tyc A sa ws0 r ad (sm_E (1, [], []) (pre1 ++ c :: pre2), h, 0, 0) H0 := by
    refine ⟨ws, hP, hD, hEc, ?_, ?_, hsa⟩
    · show ai_gH tyc r ad (sm_E (1, [], []) (pre1 ++ c :: pre2)).1 ws0 h ws
      rw [hN0]; exact hH
    · show ai_gO sa.2 r ad (sm_E (1, [], []) (pre1 ++ c :: pre2)).1 h
      rw [hN0]; exact hO
  have hAc : ai_gF r ad (sm_E (1, [], []) (pre1 ++ c :: pre2)).1 h.1 aa As := by rw [hN0]; exact hA
  have back : ∀ {r' : Nat → Int} {ad' : Nat → Nat} {w : sm_W} {H1 : Heap}, ai_Wd D tyc A sa ws0 r' ad' (sm_out (sm_E (1, [], []) (pre1 ++ c :: pre2)) w).2 H1 → ai_Wd D tyc A sa ws0 r' ad' (sm_out (sm_E (1, [], []) (pre1 ++ b :: pre2)) w).2 H1 := fun {r' ad' w H1} hW => by
    obtain ⟨ws', k1, k2, k3, k4, k5, k6⟩ := hW
    have k3 : ai_gE r' (sm_E (sm_E (1, [], []) (pre1 ++ c :: pre2)) w.2.1) := k3
    refine ⟨ws', k1, k2, ?_, ?_, ?_, k6⟩
    · exact lt_gE (hlen b c) (fun i b' hi => by
        by_cases hi0 : i = pre1.length
        · subst hi0
          rw [self b] at hi
          cases hi
          have h1 := get k3 pre1.length c (self c)
          have h2 := lc_cov_sub hcov c hc
          omega
        · exact get k3 i b' (other b c i b' hi0 hi)) k3
    · show ai_gH tyc r' ad' (sm_E (sm_E (1, [], []) (pre1 ++ b :: pre2)) w.2.1).1 ws0 w.2.2 ws'
      rw [← hN]; exact k4
    · show ai_gO sa.2 r' ad' (sm_E (sm_E (1, [], []) (pre1 ++ b :: pre2)) w.2.1).1 w.2.2
      rw [← hN]; exact k5
  refine sm_imp (hS.2.2 l D tyc A sa hl ws0 r ad H0 As hPw hWc hAc) (fun _ _ q => q) (fun a s o t hq => ?_) (fun X s t hq => ?_)
  · obtain ⟨f, hf, x, v, g1, g2, r', ad', x1, x2, x3, x4, hW, hF, hv'⟩ := hq
    obtain ⟨w, hw, rfl⟩ := List.mem_map.mp hf
    refine ⟨sm_out (sm_E (1, [], []) (pre1 ++ b :: pre2)) w, List.mem_map.mpr ⟨w, hw, rfl⟩, x, v, g1, g2, r', ad', ?_, x2, ?_, x4, back hW, hF, ?_⟩
    · show ai_ext (sm_E (1, [], []) (pre1 ++ b :: pre2)).1 r r'
      rw [← hN0]; exact x1
    · exact Nat.le_add_right _ _
    · show ai_gR' r' ad' (sm_E (sm_E (1, [], []) (pre1 ++ b :: pre2)) w.2.1).1 w.2.2.1 x v
      rw [← hN]; exact hv'
  · obtain ⟨f, hf, x, g1, g2, r', ad', x1, x2, x3, x4, hW, hF, -⟩ := hq
    obtain ⟨w, hw, rfl⟩ := List.mem_map.mp hf
    refine ⟨sm_out (sm_E (1, [], []) (pre1 ++ b :: pre2)) w, List.mem_map.mpr ⟨w, hw, rfl⟩, x, g1, g2, r', ad', ?_, x2, ?_, x4, back hW, hF, trivial⟩
    · show ai_ext (sm_E (1, [], []) (pre1 ++ b :: pre2)).1 r r'
      rw [← hN0]; exact x1
    · exact Nat.le_add_right _ _
