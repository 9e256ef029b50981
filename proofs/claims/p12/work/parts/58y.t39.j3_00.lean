/-! TEXTS: how deep the codes' stack is -/
noncomputable def ps_dp (B : Nat) : List Int → Nat → Option Nat
  | [], d => some d
  | c :: l, d => if -5 ≤ c then (if d < B then ps_dp B l (d + 1) else none) else if c = -12 then (if 1 ≤ d then ps_dp B l d else none) else if -14 ≤ c then (if 2 ≤ d then ps_dp B l (d - 1) else none) else none
theorem ps_dp_c {B d : Nat} {c : Int} {l : List Int} : ps_dp B (c :: l) d = if -5 ≤ c then (if d < B then ps_dp B l (d + 1) else none) else if c = -12 then (if 1 ≤ d then ps_dp B l d else none) else if -14 ≤ c then (if 2 ≤ d then ps_dp B l (d - 1) else none) else none := rfl
theorem ps_dp_a {B : Nat} : ∀ {l m : List Int} {d d1 : Nat}, ps_dp B l d = some d1 → ps_dp B (l ++ m) d = ps_dp B m d1
  | [], m, d, d1, h => by
    have h : some d = some d1 := h
    cases h
    rfl
  | c :: l, m, d, d1, h => by
    rw [List.cons_append, ps_dp_c]
    rw [ps_dp_c] at h
    by_cases a : -5 ≤ c
    · rw [if_pos a] at h ⊢
      by_cases b : d < B
      · rw [if_pos b] at h ⊢
        exact ps_dp_a h
      · rw [if_neg b] at h
        cases h
    · rw [if_neg a] at h ⊢
      by_cases b : c = -12
      · rw [if_pos b] at h ⊢
        by_cases x : 1 ≤ d
        · rw [if_pos x] at h ⊢
          exact ps_dp_a h
        · rw [if_neg x] at h
          cases h
      · rw [if_neg b] at h ⊢
        by_cases x : -14 ≤ c
        · rw [if_pos x] at h ⊢
          by_cases y : 2 ≤ d
          · rw [if_pos y] at h ⊢
            exact ps_dp_a h
          · rw [if_neg y] at h
            cases h
        · rw [if_neg x] at h
          cases h
/-- what is read leaves one number, at most h above what was there -/
noncomputable def ps_gd (B h : Nat) (σ τ : ps_S) : Prop := τ.2.2.1 = 0 → ∃ m : List Int, τ.2.1 = σ.2.1 ++ m ∧ ∀ d, d + h ≤ B → ps_dp B m d = some (d + 1)
/-- what is read joins to the number that was there -/
noncomputable def ps_gj (B h : Nat) (σ τ : ps_S) : Prop := τ.2.2.1 = 0 → ∃ m : List Int, τ.2.1 = σ.2.1 ++ m ∧ ∀ d, 1 ≤ d → d + h ≤ B → ps_dp B m d = some d
theorem ps_pa_c {A : Nat → Int} {n : Nat} {c : Int} {σ : ps_S} : (ps_pa A n c σ).2.1 = σ.2.1 := by
  unfold ps_pa
  split
  · split
    · rfl
    · exact ps_fl_c
  · rfl
section PSG
variable {A : Nat → Int} {n B h : Nat} {E : ps_S → ps_S}
theorem ps_gd_j {σ τ υ : ps_S} (hf : υ.2.2.1 = 0 → τ.2.2.1 = 0) (a : ps_gd B h σ τ) (b : ps_gj B h τ υ) : ps_gd B (h + 1) σ υ := fun k => by
  obtain ⟨m, m1, m2⟩ := a (hf k)
  obtain ⟨q, q1, q2⟩ := b k
  exact ⟨m ++ q, by rw [q1, m1, List.append_assoc], fun d hd => by
    rw [ps_dp_a (m2 d (by omega))]
    exact q2 (d + 1) (by omega) (by omega)⟩
theorem ps_gd_up {h' : Nat} {σ τ : ps_S} (hh : h ≤ h') (a : ps_gd B h σ τ) : ps_gd B h' σ τ := fun k => by
  obtain ⟨m, m1, m2⟩ := a k
  exact ⟨m, m1, fun d hd => m2 d (by omega)⟩
theorem ps_gd_pt (h1 : 1 ≤ h) (hA : ps_A A n) (hE : ∀ σ, ps_gd B h σ (E σ)) {σ : ps_S} (hok : ∀ σ, ps_ok n σ (E σ)) : ps_gd B h σ (ps_pt A n E σ) := fun k => by
  have k' := k
  unfold ps_pt at k' ⊢
  split at k'
  · rename_i q
    split at k'
    · rename_i i40
      rw [if_pos q, if_pos i40]
      have f1 := (ps_ok_pa (n := n) (c := 41) hA k').1
      obtain ⟨m, m1, m2⟩ := hE _ f1
      refine ⟨m, ?_, m2⟩
      rw [ps_pa_c, m1]
      rfl
    · rename_i i40
      have fl : ∀ k : Int, k ≠ 0 → (ps_fl A n k σ).2.2.1 ≠ 0 := fun k hk => by
        unfold ps_fl
        rw [if_pos q]
        exact hk
      split at k'
      · exact absurd k' (fl 2 (by omega))
      · split at k'
        · exact absurd k' (fl 3 (by omega))
        · split at k'
          · rename_i a b c
            rw [if_pos q, if_neg i40, if_neg a, if_neg b, if_pos c]
            refine ⟨[ps_vl A n σ.1], rfl, fun d hd => ?_⟩
            rw [ps_dp_c, if_pos (by omega), if_pos (by omega)]
            rfl
          · exact absurd k' (fl 1 (by omega))
  · rename_i q
    exact absurd (ps_ok_pt (E := E) hA hok k).1 q
theorem ps_gj_lp (hA : ps_A A n) {o : ps_S → Int} {Bo : ps_S → ps_S} (ho : ∀ σ, o σ ≠ 0 → (-14 ≤ o σ ∧ o σ < -5) ∧ o σ ≠ -12) (hok : ∀ σ, ps_ok n σ (Bo σ)) (hot : ∀ σ, o σ ≠ 0 → ps_tk A n σ.1 ≠ 0) (hB : ∀ σ, ps_gd B h σ (Bo σ)) : ∀ (f : Nat) (σ : ps_S), ps_gj B h σ (ps_lp A n o Bo f σ)
  | 0, σ => fun _ => ⟨[], by rw [List.append_nil]; rfl, fun d _ _ => rfl⟩
  | f + 1, σ => fun k => by
    unfold ps_lp at k ⊢
    by_cases w : σ.2.2.1 = 0 ∧ o σ ≠ 0
    · rw [if_pos w] at k ⊢
      obtain ⟨q, q1, q2⟩ := ps_gj_lp hA ho hok hot hB f _ k
      have f1 := (ps_ok_lp hA hot hok f _ k).1
      have f1 : (Bo (ps_av A n σ)).2.2.1 = 0 := f1
      obtain ⟨m, m1, m2⟩ := hB _ f1
      refine ⟨m ++ [o σ] ++ q, ?_, fun d d1 hd => ?_⟩
      · rw [q1]
        show ((Bo (ps_av A n σ)).2.1 ++ [o σ]) ++ q = _
        rw [m1, List.append_assoc, List.append_assoc, List.append_assoc]
        rfl
      · obtain ⟨⟨o1, o2⟩, o3⟩ := ho σ w.2
        have e1 : ps_dp B (m ++ [o σ]) d = some d := by
          rw [ps_dp_a (m2 d hd), ps_dp_c, if_neg (by omega), if_neg o3, if_pos o1, if_pos (by omega)]
          rfl
        rw [ps_dp_a e1]
        exact q2 d d1 hd
    · rw [if_neg w] at k ⊢
      exact ⟨[], by rw [List.append_nil], fun d _ _ => rfl⟩
theorem ps_op_r {c1 o1 c2 o2 : Int} (h1 : (-14 ≤ o1 ∧ o1 < -5) ∧ o1 ≠ -12) (h2 : (-14 ≤ o2 ∧ o2 < -5) ∧ o2 ≠ -12) {σ : ps_S} (hh : ps_op A n c1 o1 c2 o2 σ ≠ 0) : (-14 ≤ ps_op A n c1 o1 c2 o2 σ ∧ ps_op A n c1 o1 c2 o2 σ < -5) ∧ ps_op A n c1 o1 c2 o2 σ ≠ -12 := by
  unfold ps_op at hh ⊢
  split
  · exact h1
  · rename_i a
    rw [if_neg a] at hh
    split
    · exact h2
    · rename_i b
      rw [if_neg b] at hh
      exact absurd rfl hh
theorem ps_ow_r {w : Int} (h1 : (-14 ≤ w ∧ w < -5) ∧ w ≠ -12) {σ : ps_S} (hh : ps_ow A n w σ ≠ 0) : (-14 ≤ ps_ow A n w σ ∧ ps_ow A n w σ < -5) ∧ ps_ow A n w σ ≠ -12 := by
  unfold ps_ow at hh ⊢
  split
  · exact h1
  · rename_i a
    rw [if_neg a] at hh
    exact absurd rfl hh
theorem ps_gd_ex (hA : ps_A A n) : ∀ (d : Nat) (σ : ps_S), ps_gd B (1 + 5 * d) σ (ps_ex A n d σ)
  | 0, σ => fun k => by
    exfalso
    unfold ps_ex at k
    by_cases q : σ.2.2.1 = 0
    · unfold ps_fl at k
      rw [if_pos q] at k
      have k : (if (ps_tk A n σ.1 = 1 ∨ ps_tk A n σ.1 = 2) ∨ ps_is A n 40 σ = true then (2 : Int) else 1) = 0 := k
      split at k <;> omega
    · unfold ps_fl at k
      rw [if_neg q] at k
      exact q k
  | d + 1, σ => by
    have hok : ∀ τ, ps_ok n τ (ps_ex A n d τ) := fun τ => ps_ok_ex hA d τ
    have hE : ∀ τ, ps_gd B (1 + 5 * d) τ (ps_ex A n d τ) := fun τ => ps_gd_ex hA d τ
    have g1 : ∀ τ, ps_gd B (1 + 5 * d) τ (ps_pt A n (ps_ex A n d) τ) := fun τ => ps_gd_pt (by omega) hA hE hok
    have k1 : ∀ τ, ps_ok n τ (ps_pt A n (ps_ex A n d) τ) := fun τ => ps_ok_pt hA hok
    have g2 : ∀ τ, ps_gd B (1 + 5 * d + 1) τ (ps_pr A n (ps_ex A n d) τ) := fun τ => ps_gd_j (fun k => (ps_ok_lp hA (fun _ => ps_op_tk) k1 _ _ k).1) (g1 τ) (ps_gj_lp hA (fun _ => ps_op_r (by omega) (by omega)) k1 (fun _ => ps_op_tk) g1 200 _)
    have k2 : ∀ τ, ps_ok n τ (ps_pr A n (ps_ex A n d) τ) := fun τ => ps_ok_pr hA hok
    have g3 : ∀ τ, ps_gd B (1 + 5 * d + 2) τ (ps_su A n (ps_ex A n d) τ) := fun τ => ps_gd_j (fun k => (ps_ok_lp hA (fun _ => ps_op_tk) k2 _ _ k).1) (g2 τ) (ps_gj_lp hA (fun _ => ps_op_r (by omega) (by omega)) k2 (fun _ => ps_op_tk) g2 200 _)
    have k3 : ∀ τ, ps_ok n τ (ps_su A n (ps_ex A n d) τ) := fun τ => ps_ok_su hA hok
    have g4 : ∀ τ, ps_gd B (1 + 5 * d + 3) τ (ps_co A n (ps_ex A n d) τ) := fun τ => ps_gd_j (fun k => (ps_ok_lp hA (fun _ => ps_op_tk) k3 _ _ k).1) (g3 τ) (ps_gj_lp hA (fun _ => ps_op_r (by omega) (by omega)) k3 (fun _ => ps_op_tk) g3 1 _)
    have nt : ∀ (r : Nat) (τ : ps_S), (ps_nt A n r τ).1.2.1 = τ.2.1 := fun r => by
      induction r with
      | zero =>
        intro τ
        unfold ps_nt
        dsimp only
        split
        · exact ps_fl_c
        · rfl
      | succ r ih =>
        intro τ
        unfold ps_nt
        split
        · exact ih _
        · rfl
    have rp : ∀ (j : Nat) (τ : ps_S), ∃ m, (ps_rp j τ).2.1 = τ.2.1 ++ m ∧ ∀ d, 1 ≤ d → ps_dp B m d = some d := fun j => by
      induction j with
      | zero => exact fun τ => ⟨[], by rw [List.append_nil]; rfl, fun d _ => rfl⟩
      | succ j ih =>
        intro τ
        obtain ⟨m, m1, m2⟩ := ih (ps_em (-12) τ)
        refine ⟨-12 :: m, ?_, fun d hd => ?_⟩
        · show (ps_rp j (ps_em (-12) τ)).2.1 = _
          rw [m1]
          show (τ.2.1 ++ [-12]) ++ m = _
          rw [List.append_assoc]
          rfl
        · rw [ps_dp_c, if_neg (by omega), if_pos rfl, if_pos hd]
          exact m2 d hd
    have g5 : ∀ τ, ps_gd B (1 + 5 * d + 3) τ (ps_ne A n (ps_ex A n d) τ) := fun τ k => by
      unfold ps_ne at k ⊢
      obtain ⟨m, m1, m2⟩ := rp (ps_nt A n 6 τ).2 (ps_co A n (ps_ex A n d) (ps_nt A n 6 τ).1)
      rw [(ps_rp_v _ _).2.2] at k
      obtain ⟨q, q1, q2⟩ := g4 _ k
      refine ⟨q ++ m, by rw [m1, q1, nt, List.append_assoc], fun x hx => ?_⟩
      rw [ps_dp_a (q2 x hx)]
      exact m2 (x + 1) (by omega)
    have k5 : ∀ τ, ps_ok n τ (ps_ne A n (ps_ex A n d) τ) := fun τ => ps_ok_ne hA hok
    have g6 : ∀ τ, ps_gd B (1 + 5 * d + 4) τ (ps_an A n (ps_ex A n d) τ) := fun τ => ps_gd_j (fun k => (ps_ok_lp hA (fun _ => ps_ow_tk) k5 _ _ k).1) (g5 τ) (ps_gj_lp hA (fun _ => ps_ow_r (by omega)) k5 (fun _ => ps_ow_tk) g5 200 _)
    have k6 : ∀ τ, ps_ok n τ (ps_an A n (ps_ex A n d) τ) := fun τ => ps_ok_an hA hok
    have g7 := ps_gd_j (σ := σ) (fun k => (ps_ok_lp hA (fun _ => ps_ow_tk) k6 200 (ps_an A n (ps_ex A n d) σ) k).1) (g6 σ) (ps_gj_lp hA (o := ps_ow A n (-14)) (fun _ => ps_ow_r (by omega)) k6 (fun _ => ps_ow_tk) g6 200 _)
    unfold ps_ex
    exact ps_gd_up (by omega) g7
end PSG
