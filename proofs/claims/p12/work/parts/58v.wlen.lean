/-! WAY: the length of an array left alone -/
noncomputable def pt_nck (Y : pt_Y) (mi pc q n : Nat) : Bool := (match ls_code mi pc with
  | some (i, len, _, _) => Nat.beq len 1 && (match i with
    | .arraylength => true
    | _ => false)
  | none => false) && (pt_gq Y.2.2.1 q n 0 && (Nat.ble 16 q && ((ai_cell Y.2.1 q).isNone && Nat.blt n 1000000)))
section PTN
variable {p : Program} {l : Launch} {e : Env} {s : State} {m : MethodId} {args : Array Value} {below : List Frame} {meth : Method} {c : Code} {Q : State → Prop}
variable {D : va_G} {tyc : Nat → ClassId} {A : Nat → Prop} {sa : ai_B} {ws0 : va_W} {ad0 : Nat → Nat} {n mi mj : Nat} {Y : pt_Y}
variable {k : Nat × Nat × Nat} {L S : List ai_V} {r : Nat → Int} {M : Nat → Nat → Int}
theorem pt_len_ok (hpl : lh_plain mi = true) (F : ls_Fr p (lt_rm (n + 1) mi) s m args meth c D tyc A sa mi) (hs : pt_sys Y) {q nq : Nat} (hck : pt_nck Y mi k.1 q nq = true)
    (hk : pt_W p l e s m args below meth c Q D tyc A sa ws0 ad0 n mi Y (k.1 + 1, k.2) L (.inl (0, .ofNat nq) :: S) r M) :
    pt_W p l e s m args below meth c Q D tyc A sa ws0 ad0 n mi Y k L (.inr (.inr (some (some q))) :: S) r M := by
  intro ws ad H locs ls st hPw hgh hM hx hR
  obtain ⟨hun, hwf⟩ := hs
  unfold pt_nck at hck
  simp only [Bool.and_eq_true, Option.isNone_iff_eq_none] at hck
  obtain ⟨c1, c2, c3, c4, c5⟩ := hck
  have c3 := Nat.le_of_ble_eq_true c3
  have c5 : nq < 1000000 := Nat.le_of_ble_eq_true c5
  obtain ⟨m1, m2, m3⟩ := pt_gq_ok c2
  unfold lh_plain at hpl
  simp only [Bool.and_eq_true, Bool.not_eq_true'] at hpl
  obtain ⟨p1, p3⟩ := hpl
  obtain ⟨mok, htab⟩ := ls_known p1
  obtain ⟨ia, ib, ec⟩ : ∃ a b, ls_code mi k.1 = some (.arraylength, 1, a, b) := by
    split at c1
    · rename_i i len a b ec
      rw [Bool.and_eq_true] at c1
      obtain ⟨l1, l2⟩ := c1
      have l1 := Nat.eq_of_beq_eq_true l1
      subst l1
      split at l2
      · exact ⟨a, b, ec⟩
      · cases l2
    · cases c1
  obtain ⟨hdg, -, -, -, -⟩ := htab _ _ _ _ _ ec
  obtain ⟨hx', hbb, -, -, -, hSt0, -⟩ := F
  have hE : ai_gE r Y.1 := hR.env
  obtain ⟨hWd, hS, hLL, hSt⟩ := hR.wd
  obtain ⟨t, rfl, hqn, h2⟩ := ai_gF.ref hSt
  obtain ⟨f, ⟨a, hw⟩, hf⟩ : ∃ f, hg_ia tyc ws q nq f ∧ ∀ j, j < nq → (f j).toInt = M q j := hM (q, nq, 0) m1
  obtain ⟨ws1, hP, hD, -, hH, -, -⟩ := hWd
  have hqn : q < Y.2.1.1 := hqn
  have hw2 : ws1[q - 16]? = some (a, .inl (tyc 0, nq, .inl f)) := by
    rw [hH.2.2.2 (q - 16) (by show q - 16 + 16 < Y.2.1.1; omega) (by rw [show q - 16 + 16 = q by omega]; exact c4)]
    exact hw
  have ha : a = ad q := by
    have := hH.2.1 _ _ hw2
    rw [show q - 16 + 16 = q by omega] at this
    exact this
  subst ha
  have hv : (Int32.ofNat nq).toInt = ai_vx r (0, Int.ofNat nq) := by
    show (nI nq).toInt = r 0 + (nq : Int)
    rw [nI_toInt (by omega), hE.1]
    omega
  refine va_alen hx' hbb hSt0.1 hP (q - 16) 0 hw2 rfl rfl hdg ?_
  exact hk ws ad H locs ls (.int (Int32.ofNat nq) :: t) hPw hgh hM hx (hR.wd.1.rel hS hLL ⟨⟨hE.2.1, Int32.ofNat nq, rfl, hv⟩, h2⟩)
end PTN
/-- a method's contract, where lengths are asked -/
theorem pt_introN {n mi : Nat} {Y : pt_Y} {aa L0 : List ai_V} {rt : Nat} {Pre : (Nat → Int) → (Nat → Nat → Int) → Prop} {Post : (Nat → Int) → (Nat → Nat → Int) → (Nat → Int) → (Nat → Nat → Int) → Option Int → Prop} (hpl : lh_plain mi = true) (hn : 4 ≤ n) (hs : pt_sys Y) (hL0 : ai_pad (ct_mt mi).2.2.1 aa = some L0)
    (body : ∀ (P : pt_P) (r : Nat → Int) (M : Nat → Nat → Int), pt_Cl n mi Y rt (Post r M) P → (∀ (k : Nat × Nat × Nat) (L S : List ai_V) (r : Nat → Int) (M : Nat → Nat → Int) (q nq : Nat), pt_nck Y mi k.1 q nq = true → P (k.1 + 1, k.2) L (.inl (0, .ofNat nq) :: S) r M → P k L (.inr (.inr (some (some q))) :: S) r M) → Pre r M → P (0, 0, 0) L0 [] r M) : pt_Met (n + 1) mi Y aa Pre Post rt := by
  intro l D tyc A sa hl ws r ad H0 As M hPw hM hpre hWd hA
  have h336 : Y.2.1.1 = 336 := by
    have hwf := hs.2
    unfold pt_wf at hwf
    simp only [Bool.and_eq_true] at hwf
    exact Nat.eq_of_beq_eq_true hwf.2.1
  refine lh_met hpl L0 hL0 hWd (by rw [← h336] at hA; exact hA) (fun p e s m below meth c ls F hret hH hR => ?_)
  exact body _ r M (pt_W_cl (p := p) (l := l) (e := e) (below := below) (ws0 := ws) (ad0 := ad) hpl F hret hl hn hs) (fun k L S r M q nq h1 h2 => pt_len_ok hpl F hs h1 h2) hpre ws ad s.heap [] ls [] hPw pt_gh.rf hM ai_ext.rfl' hR
