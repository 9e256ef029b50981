/-! TEXTS: what a reading tells is told behind what was there; heads stand at clauses' ends -/
noncomputable def ps_sf (σ τ : ps_S) : Prop := ∃ m : List Int, τ.2.1 = σ.2.1 ++ m ∧ ∀ c ∈ m, -15 < c
section PSF
variable {A : Nat → Int} {n : Nat} {E : ps_S → ps_S}
theorem ps_sf_rf {σ τ : ps_S} (h : τ.2.1 = σ.2.1) : ps_sf σ τ := ⟨[], by rw [h, List.append_nil], fun c hc => by cases hc⟩
theorem ps_sf_tr {σ τ υ : ps_S} (h : ps_sf σ τ) (g : ps_sf τ υ) : ps_sf σ υ := by
  obtain ⟨m, h1, h2⟩ := h
  obtain ⟨k, g1, g2⟩ := g
  exact ⟨m ++ k, by rw [g1, h1, List.append_assoc], fun c hc => by
    rcases List.mem_append.mp hc with q | q
    · exact h2 c q
    · exact g2 c q⟩
theorem ps_sf_em {σ : ps_S} {c : Int} (h : -15 < c) : ps_sf σ (ps_em c σ) := ⟨[c], rfl, fun z hz => by
  rw [List.mem_singleton.mp hz]
  exact h⟩
theorem ps_sf_fl {σ : ps_S} {k : Int} : ps_sf σ (ps_fl A n k σ) := by
  unfold ps_fl
  split <;> exact ps_sf_rf rfl
theorem ps_sf_pa {σ : ps_S} {c : Int} : ps_sf σ (ps_pa A n c σ) := by
  unfold ps_pa
  split
  · split
    · exact ps_sf_rf rfl
    · exact ps_sf_fl
  · exact ps_sf_rf rfl
theorem ps_sf_pt (hE : ∀ σ, ps_sf σ (E σ)) {σ : ps_S} : ps_sf σ (ps_pt A n E σ) := by
  unfold ps_pt
  split
  · split
    · exact ps_sf_tr (τ := ps_av A n σ) (ps_sf_rf rfl) (ps_sf_tr (hE _) ps_sf_pa)
    · split
      · exact ps_sf_fl
      · split
        · exact ps_sf_fl
        · split
          · exact ps_sf_tr (ps_sf_em (c := ps_vl A n σ.1) (by omega)) (ps_sf_rf rfl)
          · exact ps_sf_fl
  · exact ps_sf_rf rfl
theorem ps_sf_lp {o : ps_S → Int} {B : ps_S → ps_S} (ho : ∀ σ, o σ ≠ 0 → -15 < o σ) (hB : ∀ σ, ps_sf σ (B σ)) : ∀ (f : Nat) (σ : ps_S), ps_sf σ (ps_lp A n o B f σ)
  | 0, σ => ps_sf_rf rfl
  | f + 1, σ => by
    unfold ps_lp
    split
    · rename_i q
      exact ps_sf_tr (τ := ps_av A n σ) (ps_sf_rf rfl) (ps_sf_tr (hB _) (ps_sf_tr (ps_sf_em (ho σ q.2)) (ps_sf_lp ho hB f _)))
    · exact ps_sf_rf rfl
theorem ps_op_15 {c1 o1 c2 o2 : Int} (h1 : -15 < o1) (h2 : -15 < o2) {σ : ps_S} (_ : ps_op A n c1 o1 c2 o2 σ ≠ 0) : -15 < ps_op A n c1 o1 c2 o2 σ := by
  unfold ps_op
  split
  · exact h1
  · split
    · exact h2
    · omega
theorem ps_ow_15 {w : Int} (h1 : -15 < w) {σ : ps_S} (_ : ps_ow A n w σ ≠ 0) : -15 < ps_ow A n w σ := by
  unfold ps_ow
  split
  · exact h1
  · omega
theorem ps_sf_pr (hE : ∀ σ, ps_sf σ (E σ)) {σ : ps_S} : ps_sf σ (ps_pr A n E σ) := ps_sf_tr (ps_sf_pt hE) (ps_sf_lp (fun _ => ps_op_15 (by omega) (by omega)) (fun _ => ps_sf_pt hE) _ _)
theorem ps_sf_su (hE : ∀ σ, ps_sf σ (E σ)) {σ : ps_S} : ps_sf σ (ps_su A n E σ) := ps_sf_tr (ps_sf_pr hE) (ps_sf_lp (fun _ => ps_op_15 (by omega) (by omega)) (fun _ => ps_sf_pr hE) _ _)
theorem ps_sf_co (hE : ∀ σ, ps_sf σ (E σ)) {σ : ps_S} : ps_sf σ (ps_co A n E σ) := ps_sf_tr (ps_sf_su hE) (ps_sf_lp (fun _ => ps_op_15 (by omega) (by omega)) (fun _ => ps_sf_su hE) _ _)
theorem ps_sf_nt : ∀ (r : Nat) (σ : ps_S), ps_sf σ (ps_nt A n r σ).1
  | 0, σ => by
    unfold ps_nt
    dsimp only
    split
    · exact ps_sf_fl
    · exact ps_sf_rf rfl
  | r + 1, σ => by
    unfold ps_nt
    split
    · exact ps_sf_tr (τ := ps_av A n σ) (ps_sf_rf rfl) (ps_sf_nt r _)
    · exact ps_sf_rf rfl
theorem ps_sf_rp : ∀ (k : Nat) (σ : ps_S), ps_sf σ (ps_rp k σ)
  | 0, σ => ps_sf_rf rfl
  | k + 1, σ => ps_sf_tr (ps_sf_em (c := -12) (by omega)) (ps_sf_rp k _)
theorem ps_sf_ne (hE : ∀ σ, ps_sf σ (E σ)) {σ : ps_S} : ps_sf σ (ps_ne A n E σ) := ps_sf_tr (ps_sf_nt 6 σ) (ps_sf_tr (ps_sf_co hE) (ps_sf_rp _ _))
theorem ps_sf_an (hE : ∀ σ, ps_sf σ (E σ)) {σ : ps_S} : ps_sf σ (ps_an A n E σ) := ps_sf_tr (ps_sf_ne hE) (ps_sf_lp (fun _ => ps_ow_15 (by omega)) (fun _ => ps_sf_ne hE) _ _)
theorem ps_sf_ex : ∀ (d : Nat) (σ : ps_S), ps_sf σ (ps_ex A n d σ)
  | 0, σ => by
    unfold ps_ex
    exact ps_sf_fl
  | d + 1, σ => by
    unfold ps_ex
    exact ps_sf_tr (ps_sf_an (ps_sf_ex d)) (ps_sf_lp (fun _ => ps_ow_15 (by omega)) (fun _ => ps_sf_an (ps_sf_ex d)) _ _)
end PSF
