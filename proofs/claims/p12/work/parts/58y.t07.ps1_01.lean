/-! TEXTS: a pure reading: the parser -/
/-- where, what was told (heads at their clauses' ends), the fault, its place -/
abbrev ps_S : Type := Nat × List Int × Int × Int
noncomputable def ps_fl (A : Nat → Int) (n : Nat) (k : Int) (σ : ps_S) : ps_S := if σ.2.2.1 = 0 then (σ.1, σ.2.1, k, (ps_st A n σ.1 : Int)) else σ
noncomputable def ps_av (A : Nat → Int) (n : Nat) (σ : ps_S) : ps_S := (ps_en A n σ.1, σ.2)
noncomputable def ps_em (c : Int) (σ : ps_S) : ps_S := (σ.1, σ.2.1 ++ [c], σ.2.2)
noncomputable def ps_is (A : Nat → Int) (n : Nat) (c : Int) (σ : ps_S) : Bool := decide (ps_tk A n σ.1 = 3) && decide (ps_vl A n σ.1 = c)
noncomputable def ps_iw (A : Nat → Int) (n : Nat) (w : Int) (σ : ps_S) : Bool := decide (ps_tk A n σ.1 = 2) && decide (ps_vl A n σ.1 = w)
noncomputable def ps_pa (A : Nat → Int) (n : Nat) (c : Int) (σ : ps_S) : ps_S := if σ.2.2.1 = 0 then (if ps_is A n c σ = true then ps_av A n σ else ps_fl A n 1 σ) else σ
noncomputable def ps_pt (A : Nat → Int) (n : Nat) (E : ps_S → ps_S) (σ : ps_S) : ps_S :=
  if σ.2.2.1 = 0 then (if ps_is A n 40 σ = true then ps_pa A n 41 (E (ps_av A n σ)) else if ps_tk A n σ.1 = 1 ∧ ps_vl A n σ.1 < 0 then ps_fl A n 2 σ else if ps_tk A n σ.1 = 2 ∧ ps_vl A n σ.1 < -5 then ps_fl A n 3 σ else if ps_tk A n σ.1 = 1 ∨ ps_tk A n σ.1 = 2 then ps_av A n (ps_em (ps_vl A n σ.1) σ) else ps_fl A n 1 σ) else σ
/-- operations side by side, from the left -/
noncomputable def ps_lp (A : Nat → Int) (n : Nat) (o : ps_S → Int) (B : ps_S → ps_S) : Nat → ps_S → ps_S
  | 0, σ => σ
  | f + 1, σ => if σ.2.2.1 = 0 ∧ o σ ≠ 0 then ps_lp A n o B f (ps_em (o σ) (B (ps_av A n σ))) else σ
noncomputable def ps_op (A : Nat → Int) (n : Nat) (c1 o1 c2 o2 : Int) (σ : ps_S) : Int := if ps_is A n c1 σ = true then o1 else if ps_is A n c2 σ = true then o2 else 0
noncomputable def ps_ow (A : Nat → Int) (n : Nat) (w : Int) (σ : ps_S) : Int := if ps_iw A n w σ = true then w else 0
noncomputable def ps_pr (A : Nat → Int) (n : Nat) (E : ps_S → ps_S) (σ : ps_S) : ps_S := ps_lp A n (ps_op A n 42 (-8) 47 (-9)) (ps_pt A n E) 200 (ps_pt A n E σ)
noncomputable def ps_su (A : Nat → Int) (n : Nat) (E : ps_S → ps_S) (σ : ps_S) : ps_S := ps_lp A n (ps_op A n 43 (-6) 45 (-7)) (ps_pr A n E) 200 (ps_pr A n E σ)
noncomputable def ps_co (A : Nat → Int) (n : Nat) (E : ps_S → ps_S) (σ : ps_S) : ps_S := ps_lp A n (ps_op A n 60 (-10) 61 (-11)) (ps_su A n E) 1 (ps_su A n E σ)
noncomputable def ps_nt (A : Nat → Int) (n : Nat) : Nat → ps_S → ps_S × Nat
  | 0, σ => (if σ.2.2.1 = 0 ∧ ps_iw A n (-12) σ = true then ps_fl A n 2 σ else σ, 0)
  | r + 1, σ => if σ.2.2.1 = 0 ∧ ps_iw A n (-12) σ = true then ((ps_nt A n r (ps_av A n σ)).1, (ps_nt A n r (ps_av A n σ)).2 + 1) else (σ, 0)
noncomputable def ps_rp : Nat → ps_S → ps_S
  | 0, σ => σ
  | k + 1, σ => ps_rp k (ps_em (-12) σ)
noncomputable def ps_ne (A : Nat → Int) (n : Nat) (E : ps_S → ps_S) (σ : ps_S) : ps_S := ps_rp (ps_nt A n 6 σ).2 (ps_co A n E (ps_nt A n 6 σ).1)
noncomputable def ps_an (A : Nat → Int) (n : Nat) (E : ps_S → ps_S) (σ : ps_S) : ps_S := ps_lp A n (ps_ow A n (-13)) (ps_ne A n E) 200 (ps_ne A n E σ)
noncomputable def ps_ex (A : Nat → Int) (n : Nat) : Nat → ps_S → ps_S
  | 0, σ => ps_fl A n (if (ps_tk A n σ.1 = 1 ∨ ps_tk A n σ.1 = 2) ∨ ps_is A n 40 σ = true then 2 else 1) σ
  | d + 1, σ => ps_lp A n (ps_ow A n (-14)) (ps_an A n (ps_ex A n d)) 200 (ps_an A n (ps_ex A n d) σ)
noncomputable abbrev ps_hd (A : Nat → Int) (n : Nat) (σ : ps_S) : Prop := ps_tk A n σ.1 = 2 ∧ (ps_vl A n σ.1 = -15 ∨ ps_vl A n σ.1 = -16)
noncomputable def ps_cl (A : Nat → Int) (n : Nat) (i : Nat) (σ : ps_S) : ps_S := if ps_hd A n σ then (if i < 8 then ps_em (ps_vl A n σ.1) (ps_pa A n 59 (ps_ex A n 6 (ps_av A n σ))) else ps_fl A n 2 σ) else ps_fl A n 1 σ
noncomputable def ps_rd (A : Nat → Int) (n : Nat) : Nat → Nat → ps_S → ps_S
  | 0, _, σ => σ
  | f + 1, i, σ => if σ.2.2.1 = 0 ∧ (i = 0 ∨ ps_tk A n σ.1 ≠ 0) then ps_rd A n f (i + 1) (ps_cl A n i σ) else σ
noncomputable def ps_read (A : Nat → Int) (n : Nat) : ps_S := ps_rd A n 9 0 (0, [], 0, -1)
/-- how far a reading came: not back, not behind the end, told no more than it read -/
noncomputable def ps_ok (n : Nat) (σ τ : ps_S) : Prop := τ.2.2.1 = 0 → σ.2.2.1 = 0 ∧ (σ.1 ≤ n → σ.1 ≤ τ.1 ∧ τ.1 ≤ n ∧ τ.2.1.length + σ.1 ≤ σ.2.1.length + τ.1)
/-- the same, with room for one code more -/
noncomputable def ps_o1 (n : Nat) (σ τ : ps_S) : Prop := τ.2.2.1 = 0 → σ.2.2.1 = 0 ∧ (σ.1 ≤ n → σ.1 ≤ τ.1 ∧ τ.1 ≤ n ∧ τ.2.1.length + 1 + σ.1 ≤ σ.2.1.length + τ.1)
section PSC
variable {A : Nat → Int} {n : Nat}
theorem ps_ok_rf {σ : ps_S} : ps_ok n σ σ := fun h => ⟨h, fun hp => ⟨Nat.le_refl _, hp, Nat.le_refl _⟩⟩
theorem ps_ok_tr {σ τ υ : ps_S} (h : ps_ok n σ τ) (g : ps_ok n τ υ) : ps_ok n σ υ := fun q => by
  obtain ⟨g1, g2⟩ := g q
  obtain ⟨h1, h2⟩ := h g1
  refine ⟨h1, fun hp => ?_⟩
  obtain ⟨a1, a2, a3⟩ := h2 hp
  obtain ⟨b1, b2, b3⟩ := g2 a2
  omega
theorem ps_o1_tr {σ τ υ : ps_S} (h : ps_o1 n σ τ) (g : ps_ok n τ υ) : ps_o1 n σ υ := fun q => by
  obtain ⟨g1, g2⟩ := g q
  obtain ⟨h1, h2⟩ := h g1
  refine ⟨h1, fun hp => ?_⟩
  obtain ⟨a1, a2, a3⟩ := h2 hp
  obtain ⟨b1, b2, b3⟩ := g2 a2
  omega
theorem ps_ok_fl {k : Int} (hk : k ≠ 0) {σ : ps_S} : ps_ok n σ (ps_fl A n k σ) := fun h => by
  unfold ps_fl at h ⊢
  split at h
  · exact absurd h hk
  · rename_i c
    exact absurd h c
theorem ps_o1_av (hA : ps_A A n) {σ : ps_S} (h : ps_tk A n σ.1 ≠ 0) : ps_o1 n σ (ps_av A n σ) := fun q => ⟨q, fun hp => by
  have a := ps_st_le (A := A) hp
  have b := ps_en_le hA hp h
  show σ.1 ≤ ps_en A n σ.1 ∧ ps_en A n σ.1 ≤ n ∧ σ.2.1.length + 1 + σ.1 ≤ σ.2.1.length + ps_en A n σ.1
  omega⟩
theorem ps_o1_ok {σ τ : ps_S} (h : ps_o1 n σ τ) : ps_ok n σ τ := fun q => by
  obtain ⟨h1, h2⟩ := h q
  exact ⟨h1, fun hp => by have := h2 hp; omega⟩
theorem ps_ok_em {c : Int} {σ τ : ps_S} (h : ps_o1 n σ τ) : ps_ok n σ (ps_em c τ) := fun q => by
  obtain ⟨h1, h2⟩ := h q
  refine ⟨h1, fun hp => ?_⟩
  have := h2 hp
  show σ.1 ≤ τ.1 ∧ τ.1 ≤ n ∧ (τ.2.1 ++ [c]).length + σ.1 ≤ σ.2.1.length + τ.1
  rw [List.length_append, List.length_singleton]
  omega
theorem ps_is_tk {c : Int} {σ : ps_S} (h : ps_is A n c σ = true) : ps_tk A n σ.1 = 3 ∧ ps_vl A n σ.1 = c := by
  unfold ps_is at h
  rw [Bool.and_eq_true, decide_eq_true_eq, decide_eq_true_eq] at h
  exact h
theorem ps_iw_tk {c : Int} {σ : ps_S} (h : ps_iw A n c σ = true) : ps_tk A n σ.1 = 2 ∧ ps_vl A n σ.1 = c := by
  unfold ps_iw at h
  rw [Bool.and_eq_true, decide_eq_true_eq, decide_eq_true_eq] at h
  exact h
theorem ps_op_tk {c1 o1 c2 o2 : Int} {σ : ps_S} (h : ps_op A n c1 o1 c2 o2 σ ≠ 0) : ps_tk A n σ.1 ≠ 0 := by
  unfold ps_op at h
  split at h
  · rename_i q
    rw [(ps_is_tk q).1]
    omega
  · split at h
    · rename_i q
      rw [(ps_is_tk q).1]
      omega
    · exact absurd rfl h
theorem ps_ow_tk {w : Int} {σ : ps_S} (h : ps_ow A n w σ ≠ 0) : ps_tk A n σ.1 ≠ 0 := by
  unfold ps_ow at h
  split at h
  · rename_i q
    rw [(ps_iw_tk q).1]
    omega
  · exact absurd rfl h
theorem ps_ok_pa (hA : ps_A A n) {c : Int} {σ : ps_S} : ps_ok n σ (ps_pa A n c σ) := by
  unfold ps_pa
  split
  · split
    · rename_i q
      exact ps_o1_ok (ps_o1_av hA (by rw [(ps_is_tk q).1]; omega))
    · exact ps_ok_fl (by omega)
  · exact ps_ok_rf
theorem ps_ok_pt (hA : ps_A A n) {E : ps_S → ps_S} (hE : ∀ σ, ps_ok n σ (E σ)) {σ : ps_S} : ps_ok n σ (ps_pt A n E σ) := by
  unfold ps_pt
  split
  · split
    · rename_i q
      exact ps_ok_tr (ps_o1_ok (ps_o1_av hA (by rw [(ps_is_tk q).1]; omega))) (ps_ok_tr (hE _) (ps_ok_pa hA))
    · split
      · exact ps_ok_fl (by omega)
      · split
        · exact ps_ok_fl (by omega)
        · split
          · rename_i q
            have t0 : ps_tk A n σ.1 ≠ 0 := by omega
            exact ps_ok_em (ps_o1_av hA t0)
          · exact ps_ok_fl (by omega)
  · exact ps_ok_rf
theorem ps_ok_lp (hA : ps_A A n) {o : ps_S → Int} (ho : ∀ σ, o σ ≠ 0 → ps_tk A n σ.1 ≠ 0) {B : ps_S → ps_S} (hB : ∀ σ, ps_ok n σ (B σ)) : ∀ (f : Nat) (σ : ps_S), ps_ok n σ (ps_lp A n o B f σ)
  | 0, σ => ps_ok_rf
  | f + 1, σ => by
    unfold ps_lp
    split
    · rename_i q
      exact ps_ok_tr (ps_ok_em (ps_o1_tr (ps_o1_av hA (ho σ q.2)) (hB _))) (ps_ok_lp hA ho hB f _)
    · exact ps_ok_rf
theorem ps_ok_pr (hA : ps_A A n) {E : ps_S → ps_S} (hE : ∀ σ, ps_ok n σ (E σ)) {σ : ps_S} : ps_ok n σ (ps_pr A n E σ) := ps_ok_tr (ps_ok_pt hA hE) (ps_ok_lp hA (fun _ => ps_op_tk) (fun _ => ps_ok_pt hA hE) _ _)
theorem ps_ok_su (hA : ps_A A n) {E : ps_S → ps_S} (hE : ∀ σ, ps_ok n σ (E σ)) {σ : ps_S} : ps_ok n σ (ps_su A n E σ) := ps_ok_tr (ps_ok_pr hA hE) (ps_ok_lp hA (fun _ => ps_op_tk) (fun _ => ps_ok_pr hA hE) _ _)
theorem ps_ok_co (hA : ps_A A n) {E : ps_S → ps_S} (hE : ∀ σ, ps_ok n σ (E σ)) {σ : ps_S} : ps_ok n σ (ps_co A n E σ) := ps_ok_tr (ps_ok_su hA hE) (ps_ok_lp hA (fun _ => ps_op_tk) (fun _ => ps_ok_su hA hE) _ _)
/-- the nots read leave room for their codes -/
theorem ps_ok_nt (hA : ps_A A n) : ∀ (r : Nat) (σ : ps_S), (ps_nt A n r σ).1.2.2.1 = 0 → σ.2.2.1 = 0 ∧ (σ.1 ≤ n → σ.1 ≤ (ps_nt A n r σ).1.1 ∧ (ps_nt A n r σ).1.1 ≤ n ∧ (ps_nt A n r σ).1.2.1.length + (ps_nt A n r σ).2 + σ.1 ≤ σ.2.1.length + (ps_nt A n r σ).1.1)
  | 0, σ, h => by
    unfold ps_nt at h ⊢
    by_cases c : σ.2.2.1 = 0 ∧ ps_iw A n (-12) σ = true
    · rw [if_pos c] at h
      exact absurd (ps_ok_fl (A := A) (n := n) (k := 2) (by omega) h).1 (by
        unfold ps_fl at h
        rw [if_pos c.1] at h
        exact absurd h (by show ¬ (2 : Int) = 0; omega))
    · rw [if_neg c] at h ⊢
      exact ⟨h, fun hp => ⟨Nat.le_refl _, hp, Nat.le_refl _⟩⟩
  | r + 1, σ, h => by
    unfold ps_nt at h ⊢
    by_cases c : σ.2.2.1 = 0 ∧ ps_iw A n (-12) σ = true
    · rw [if_pos c] at h ⊢
      obtain ⟨g1, g2⟩ := ps_ok_nt hA r (ps_av A n σ) h
      obtain ⟨a1, a2⟩ := ps_o1_av hA (σ := σ) (by rw [(ps_iw_tk c.2).1]; omega) g1
      refine ⟨a1, fun hp => ?_⟩
      have b := a2 hp
      have d := g2 b.2.1
      dsimp only
      omega
    · rw [if_neg c] at h ⊢
      exact ⟨h, fun hp => ⟨Nat.le_refl _, hp, Nat.le_refl _⟩⟩
theorem ps_rp_v : ∀ (k : Nat) (σ : ps_S), (ps_rp k σ).1 = σ.1 ∧ (ps_rp k σ).2.1.length = σ.2.1.length + k ∧ (ps_rp k σ).2.2 = σ.2.2
  | 0, σ => ⟨rfl, rfl, rfl⟩
  | k + 1, σ => by
    obtain ⟨h1, h2, h3⟩ := ps_rp_v k (ps_em (-12) σ)
    unfold ps_rp
    refine ⟨h1, ?_, h3⟩
    rw [h2]
    show (σ.2.1 ++ [-12]).length + k = _
    rw [List.length_append, List.length_singleton]
    omega
theorem ps_ok_ne (hA : ps_A A n) {E : ps_S → ps_S} (hE : ∀ σ, ps_ok n σ (E σ)) {σ : ps_S} : ps_ok n σ (ps_ne A n E σ) := fun h => by
  unfold ps_ne at h ⊢
  obtain ⟨r1, r2, r3⟩ := ps_rp_v (ps_nt A n 6 σ).2 (ps_co A n E (ps_nt A n 6 σ).1)
  rw [r3] at h
  obtain ⟨c1, c2⟩ := ps_ok_co hA hE h
  obtain ⟨n1, n2⟩ := ps_ok_nt hA 6 σ c1
  refine ⟨n1, fun hp => ?_⟩
  have a := n2 hp
  have b := c2 a.2.1
  rw [r1, r2]
  omega
theorem ps_ok_an (hA : ps_A A n) {E : ps_S → ps_S} (hE : ∀ σ, ps_ok n σ (E σ)) {σ : ps_S} : ps_ok n σ (ps_an A n E σ) := ps_ok_tr (ps_ok_ne hA hE) (ps_ok_lp hA (fun _ => ps_ow_tk) (fun _ => ps_ok_ne hA hE) _ _)
theorem ps_ok_ex (hA : ps_A A n) : ∀ (d : Nat) (σ : ps_S), ps_ok n σ (ps_ex A n d σ)
  | 0, σ => by
    unfold ps_ex
    refine ps_ok_fl ?_
    split <;> omega
  | d + 1, σ => by
    unfold ps_ex
    exact ps_ok_tr (ps_ok_an hA (ps_ok_ex hA d)) (ps_ok_lp hA (fun _ => ps_ow_tk) (fun _ => ps_ok_an hA (ps_ok_ex hA d)) _ _)
end PSC
