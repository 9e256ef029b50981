/-! ROOM: a run goes on as if its method began there, in a room of its own -/
theorem sh_hears {s T : State} (h : s.vm.Alike T.vm) {m : MethodId} {below : List Frame} (hh : s.hears m below = true) : T.hears m below = true := by
  have hc : ∀ x, T.code? x = s.code? x := fun x => by rw [State.code?_eq, State.code?_eq, h.method?]
  have e : T.hears m below = s.hears m below := by
    cases below with
    | nil =>
      show (T.vm.method? m).any _ = (s.vm.method? m).any _
      rw [h.method?]
    | cons f t =>
      cases f with
      | java g =>
        show ((T.code? g.method).bind _).isSome = ((s.code? g.method).bind _).isSome
        rw [hc]
      | _ => first
        | rfl
        | (show (T.vm.method? m).any _ = (s.vm.method? m).any _; rw [h.method?])
  rw [e]
  exact hh
theorem sh_same {A B : State} {F : List Frame} {locs : List Loc} {k n : Nat} (h : (A.setFrames F).sameButNew B locs k n) : A.sameButNew B locs k n := by
  obtain ⟨h1, h2, h3, h4, h5, h6⟩ := h
  rw [State.setFrames_setFrames] at h1
  exact ⟨h1, h2, h3, h4, h5, h6⟩
section SHI
variable {p : Program} {l : Launch} {e : Env} {R : Room} {s : State} {m : MethodId} {args : Array Value} {below : List Frame} {meth : Method} {c : Code} {Q : State → Prop}
variable {D : va_G} {tyc : Nat → ClassId} {A : Nat → Prop} {sa : ai_B} {ws0 : va_W} {nL : Nat} {cc : ByteArray} {own : String} {Ts : List Cond} {strs : List ai_Z} {nws : List Cond} {dflt : Nat → List ai_V} {kind : Nat → Nat → Nat}
variable {r : Nat → Int} {ad : Nat → Nat} {L S : List ai_V} {G : ai_G} {H : Heap} {locs : List Loc} {ls : Array Slot} {st : List Value} {pc : Nat} {cells slots : Nat}
theorem sh_rel {s2 : State} {H' : Heap} {locs' : List Loc} (hS : va_S A s.heap H locs) (h2 : s2.heap = H) (hR : ai_Rel D tyc A s2 sa ws0 nL r ad L S G H' locs' ls st) : ai_Rel D tyc A s sa ws0 nL r ad L S G H' (locs ++ locs') ls st := by
  obtain ⟨ws, hP, hD, hS2, hE, hH, hO, hsa, hL, hSt⟩ := hR
  rw [h2] at hS2
  exact ⟨ws, hP, hD, ⟨Nat.le_trans hS.1 hS2.1, fun q h1 h3 => (hS2.2.1 q (Nat.lt_of_lt_of_le h1 hS.1) h3).trans (hS.2.1 q h1 h3), fun q hq => (List.mem_append.mp hq).elim (hS.2.2 q) (hS2.2.2 q)⟩, hE, hH, hO, hsa, hL, hSt⟩
set_option maxHeartbeats 1000000 in
theorem lw_shift (R' : Room) (hf : R'.frames ≤ R.frames) (hlo : R'.locals ≤ R.locals) (hc : cells + R'.cells ≤ R.cells) (hsl : slots + R'.slots ≤ R.slots) (h8 : 8 ≤ R'.frames ∧ 400 ≤ R'.locals) (hgood : ∀ w ∈ Ts, goodWord w = true) (hnk : ∀ w ∈ nws, ai_nk w = true) (F : ai_Fr p R s m args meth c D tyc A sa nL cc own Ts strs nws (R.cells, R.slots) dflt kind) (hR : ai_Rel D tyc A s sa ws0 nL r ad L S G H locs ls st)
    (K : ∀ s2 : State, s2.heap = H → ai_Fr p R' s2 m args meth c D tyc A sa nL cc own Ts strs nws (R'.cells, R'.slots) dflt kind → ai_Rel D tyc A s2 sa ws0 nL r ad L S G H [] ls st → (∀ (H' : Heap) (locs' : List Loc) (c' s' : Nat) (g' : JFrame), W p l e R s m args below meth c H' (locs ++ locs') (cells + c') (slots + s') Q g' → W p l e R' s2 m args below meth c H' locs' c' s' Q g') → W p l e R' s2 m args below meth c H [] 0 0 Q (F0 m pc ls st)) :
    W p l e R s m args below meth c H locs cells slots Q (F0 m pc ls st) := by
  obtain ⟨hx, hb, hml, hts, hown, hSt0, hA, hbud, hcls, hroom, hlocks⟩ := F
  have hS : va_S A s.heap H locs := hR.wd.2.1
  intro T hT X
  have hcur : T.cur < T.threads.size := State.cur_lt_of_top X.here.top
  obtain ⟨tx, htx⟩ : ∃ tx, T.threads[T.cur]? = some tx := ⟨_, Array.getElem?_eq_getElem hcur⟩
  have hfr : (T.setFrames (.invoking m args :: below)).frames = .invoking m args :: below := State.frames_setFrames _ hcur
  have h0 := X.room
  obtain ⟨r1, r2, r3, r4⟩ := State.hasRoom_stack h0
  have r5 := State.hasRoom_real h0
  have rh := State.hasRoom_heap h0
  have rp := State.hasRoom_plain h0
  rw [State.localsInUse_invoking X.frames X.method X.code] at r3 r4 r5
  rw [X.frames, List.length_cons] at r1 r2
  have hU : (T.setFrames (.invoking m args :: below)).localsInUse = _ := State.localsInUse_invoking hfr (show (T.setFrames (.invoking m args :: below)).vm.method? m = some meth from X.method') X.code
  have hheap := X.heapSize
  have hused := X.used
  have hW2 : s.WarmedH (T.setFrames (.invoking m args :: below)).vm := X.warmed
  have X2 : Stand p l e R' (T.setFrames (.invoking m args :: below)) m args below meth c T [] 0 0 := by
    refine ⟨X.admits, X.cas, X.clock, hfr, ?_, sh_hears (T := T.setFrames (.invoking m args :: below)) X.warmed.alike X.hears, X.method', X.code, X.here, X.tail, State.WarmedH.refl T, (State.stackLimits_setFrames _ T _).symm, (State.stackBytes_setFrames T _).symm, ?_⟩
    · simp only [State.hasRoom, Bool.and_eq_true, decide_eq_true_eq, hfr, hU, List.length_cons, State.stackLimits_setFrames, State.stackBytes_setFrames, X.limits, X.bytes]
      refine ⟨⟨⟨⟨by omega, by omega, by omega, by omega, by omega, rp⟩, ?_⟩, ?_⟩, X.book⟩
      · show T.heap.size + R'.cells ≤ _
        omega
      · show T.slotsUsed + R'.slots ≤ _
        omega
    · have h := (State.sameButNew.refl T htx).setFrames (.invoking m args :: below) hcur
      have h2 := (State.sameButNew.refl T htx)
      have e1 : T.setVm (T.setFrames (.invoking m args :: below)).vm = T := rfl
      rw [e1]
      obtain ⟨g1, g2, g3, g4, g5, g6⟩ := h2
      refine ⟨?_, g2, g3, g4, g5, g6⟩
      rw [State.setFrames_setFrames]
      exact g1
  have hH2 : (T.setFrames (.invoking m args :: below)).heap = H := hT
  have F2 : ai_Fr p R' (T.setFrames (.invoking m args :: below)) m args meth c D tyc A sa nL cc own Ts strs nws (R'.cells, R'.slots) dflt kind := by
    refine ⟨hx, hb, hml, fun w hw => word_at (U := T.setFrames (.invoking m args :: below)) hW2 (good_of_word (hgood w hw)) (hts w hw), ?_, hSt0.moved hnk hW2 (by rw [hH2]; exact hS.1) (fun q h1 h2 => by rw [hH2]; exact hS.2.1 q h1 h2), fun q hq => hA q (Nat.le_trans hS.1 (by rw [hH2] at hq; exact hq)), ⟨rfl, rfl⟩, hcls, h8, hlocks⟩
    have := X.warmed.alike.findClass (name := own)
    exact (this none).trans hown
  have hR2 : ai_Rel D tyc A (T.setFrames (.invoking m args :: below)) sa ws0 nL r ad L S G H [] ls st := by
    obtain ⟨ws, hP, hD, -, hE, hH, hO, hsa, hL, hSt⟩ := hR
    exact ⟨ws, hP, hD, by rw [hH2]; exact va_S.rf, hE, hH, hO, hsa, hL, hSt⟩
  refine K _ hH2 F2 hR2 (fun H' locs' c' s' g' hW T' hT' X' => hW T' hT' ?_) T hT X2
  exact X.moved X'.here X'.tail (X'.limits.trans (State.stackLimits_setFrames _ T _)) (X'.bytes.trans (State.stackBytes_setFrames T _)) X'.warmed (sh_same X'.same)
end SHI
