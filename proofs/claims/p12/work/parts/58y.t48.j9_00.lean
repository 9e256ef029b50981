/-! TEXTS: where nothing is wrong no place is told -/
noncomputable def ps_pl (σ τ : ps_S) : Prop := τ.2.2.1 = 0 → σ.2.2.1 = 0 ∧ τ.2.2.2 = σ.2.2.2
section PSL
variable {A : Nat → Int} {n : Nat}
theorem ps_pl_rf {σ : ps_S} : ps_pl σ σ := fun h => ⟨h, rfl⟩
theorem ps_pl_tr {σ τ υ : ps_S} (h : ps_pl σ τ) (g : ps_pl τ υ) : ps_pl σ υ := fun q => by
  obtain ⟨g1, g2⟩ := g q
  obtain ⟨h1, h2⟩ := h g1
  exact ⟨h1, g2.trans h2⟩
theorem ps_pl_fl {k : Int} (hk : k ≠ 0) {σ : ps_S} : ps_pl σ (ps_fl A n k σ) := fun h => by
  unfold ps_fl at h ⊢
  split at h
  · exact absurd h hk
  · rename_i c
    exact absurd h c
theorem ps_pl_av {σ : ps_S} : ps_pl σ (ps_av A n σ) := fun h => ⟨h, rfl⟩
theorem ps_pl_em {c : Int} {σ : ps_S} : ps_pl σ (ps_em c σ) := fun h => ⟨h, rfl⟩
theorem ps_pl_pa {c : Int} {σ : ps_S} : ps_pl σ (ps_pa A n c σ) := by
  unfold ps_pa
  split
  · split
    · exact ps_pl_av
    · exact ps_pl_fl (by omega)
  · exact ps_pl_rf
theorem ps_pl_pt {E : ps_S → ps_S} (hE : ∀ σ, ps_pl σ (E σ)) {σ : ps_S} : ps_pl σ (ps_pt A n E σ) := by
  unfold ps_pt
  split
  · split
    · exact ps_pl_tr ps_pl_av (ps_pl_tr (hE _) ps_pl_pa)
    · split
      · exact ps_pl_fl (by omega)
      · split
        · exact ps_pl_fl (by omega)
        · split
          · exact ps_pl_tr ps_pl_em ps_pl_av
          · exact ps_pl_fl (by omega)
  · exact ps_pl_rf
theorem ps_pl_lp {o : ps_S → Int} {B : ps_S → ps_S} (hB : ∀ σ, ps_pl σ (B σ)) : ∀ (f : Nat) (σ : ps_S), ps_pl σ (ps_lp A n o B f σ)
  | 0, σ => ps_pl_rf
  | f + 1, σ => by
    unfold ps_lp
    split
    · exact ps_pl_tr (ps_pl_tr (ps_pl_tr ps_pl_av (hB _)) ps_pl_em) (ps_pl_lp hB f _)
    · exact ps_pl_rf
theorem ps_pl_pr {E : ps_S → ps_S} (hE : ∀ σ, ps_pl σ (E σ)) {σ : ps_S} : ps_pl σ (ps_pr A n E σ) := ps_pl_tr (ps_pl_pt hE) (ps_pl_lp (fun _ => ps_pl_pt hE) _ _)
theorem ps_pl_su {E : ps_S → ps_S} (hE : ∀ σ, ps_pl σ (E σ)) {σ : ps_S} : ps_pl σ (ps_su A n E σ) := ps_pl_tr (ps_pl_pr hE) (ps_pl_lp (fun _ => ps_pl_pr hE) _ _)
theorem ps_pl_co {E : ps_S → ps_S} (hE : ∀ σ, ps_pl σ (E σ)) {σ : ps_S} : ps_pl σ (ps_co A n E σ) := ps_pl_tr (ps_pl_su hE) (ps_pl_lp (fun _ => ps_pl_su hE) _ _)
theorem ps_pl_nt : ∀ (r : Nat) (σ : ps_S), ps_pl σ (ps_nt A n r σ).1
  | 0, σ => by
    unfold ps_nt
    show ps_pl σ (if σ.2.2.1 = 0 ∧ ps_iw A n (-12) σ = true then ps_fl A n 2 σ else σ)
    split
    · exact ps_pl_fl (by omega)
    · exact ps_pl_rf
  | r + 1, σ => by
    unfold ps_nt
    split
    · exact ps_pl_tr ps_pl_av (ps_pl_nt r _)
    · exact ps_pl_rf
theorem ps_pl_rp : ∀ (k : Nat) (σ : ps_S), ps_pl σ (ps_rp k σ)
  | 0, σ => ps_pl_rf
  | k + 1, σ => by
    unfold ps_rp
    exact ps_pl_tr ps_pl_em (ps_pl_rp k _)
theorem ps_pl_ne {E : ps_S → ps_S} (hE : ∀ σ, ps_pl σ (E σ)) {σ : ps_S} : ps_pl σ (ps_ne A n E σ) := by
  unfold ps_ne
  exact ps_pl_tr (ps_pl_nt 6 σ) (ps_pl_tr (ps_pl_co hE) (ps_pl_rp _ _))
theorem ps_pl_an {E : ps_S → ps_S} (hE : ∀ σ, ps_pl σ (E σ)) {σ : ps_S} : ps_pl σ (ps_an A n E σ) := ps_pl_tr (ps_pl_ne hE) (ps_pl_lp (fun _ => ps_pl_ne hE) _ _)
theorem ps_pl_ex : ∀ (d : Nat) (σ : ps_S), ps_pl σ (ps_ex A n d σ)
  | 0, σ => by
    unfold ps_ex
    refine ps_pl_fl ?_
    split <;> omega
  | d + 1, σ => by
    unfold ps_ex
    exact ps_pl_tr (ps_pl_an (ps_pl_ex d)) (ps_pl_lp (fun _ => ps_pl_an (ps_pl_ex d)) _ _)
theorem ps_pl_cl {i : Nat} {σ : ps_S} : ps_pl σ (ps_cl A n i σ) := by
  unfold ps_cl
  split
  · split
    · exact ps_pl_tr (ps_pl_tr (ps_pl_tr ps_pl_av (ps_pl_ex 6 _)) ps_pl_pa) ps_pl_em
    · exact ps_pl_fl (by omega)
  · exact ps_pl_fl (by omega)
theorem ps_pl_rd : ∀ (f i : Nat) (σ : ps_S), ps_pl σ (ps_rd A n f i σ)
  | 0, _, σ => ps_pl_rf
  | f + 1, i, σ => by
    unfold ps_rd
    split
    · exact ps_pl_tr ps_pl_cl (ps_pl_rd f (i + 1) _)
    · exact ps_pl_rf
theorem ps_read_pl (h : (ps_read A n).2.2.1 = 0) : (ps_read A n).2.2.2 = -1 := (ps_pl_rd 9 0 (0, [], 0, -1) h).2
end PSL
