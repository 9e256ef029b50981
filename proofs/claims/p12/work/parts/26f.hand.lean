/-! A CONTRACT BY HAND: from the walk of a method's body (no handlers) -/
theorem hb_met {l : Launch} {D : va_G} {tyc : Nat → ClassId} {A : Nat → Prop} {sa : ai_B} {strs : List ai_Z} {nws Wg : List Cond} {y : ai_MT} {rm : Room} {dflt : Nat → List ai_V} {kind : Nat → Nat → Nat} {H0 : Heap} {As : List Value} {Qc : Array Value → State → Outcome → State → Prop} {XC : String → State → State → Prop} (hcls : ∀ ci, ci < 13 → ai_cls Wg dflt kind ci) (mok : ai_mok Wg y) (htb : y.2.2.2.2.1 = none) (hroom : 8 ≤ rm.frames ∧ 400 ≤ rm.locals)
    (body : ∀ (p : Program) (e : Env) (s : State) (m : MethodId) (below : List Frame) (meth : Method) (c : Code), ai_Fr p rm s m As.toArray meth c D tyc A sa y.2.2.1 y.2.1 y.1.cls Wg strs nws (rm.cells, rm.slots) dflt kind → meth.sig.returnType = y.2.2.2.1 → (∀ x ∈ c.exceptionTable.toList, False) → s.heap = H0 →
      W p l e rm s m As.toArray below meth c s.heap [] 0 0 (vx_MQ below Qc XC As.toArray s rm.cells rm.slots A) (F0 m 0 ((lg_sl As ++ List.replicate (y.2.2.1 - (lg_sl As).length) Slot.unset).toArray) [])) :
    vx_Met l y.1 (ai_cw y :: Wg) rm (fun a U => a = As.toArray ∧ U.heap = H0 ∧ ai_St D tyc A sa strs nws U ∧ ∀ q, H0.size ≤ q → A q) Qc XC rm.cells rm.slots A := by
  unfold ai_cw
  rw [htb]
  refine vx_ofW mok.1 rfl (fun p e s m args below meth c s₁ B hml ht hP => ?_)
  obtain ⟨hargs, hheap, hSt, hA0⟩ := hP
  have hts : ∀ w ∈ Wg, w.before args s = true := fun w hw => atoms_spec (ws := Cond.code y.1 y.2.1 y.2.2.1 y.2.2.2.1 :: Wg) B.pre w (List.mem_cons_of_mem _ hw)
  subst hargs
  have F : ai_Fr p rm s m As.toArray meth c D tyc A sa y.2.2.1 y.2.1 y.1.cls Wg strs nws (rm.cells, rm.slots) dflt kind := ⟨B.exec, B.bytes, hml, hts, findClass_of_methodNamed B.named, hSt, by rw [hheap]; exact hA0, ⟨rfl, rfl⟩, hcls, hroom, B.notSynchronized⟩
  have R0 := body p e s m below meth c F B.returns ht hheap
  have e3 : entryFrame m As.toArray y.2.2.1 = F0 m 0 ((lg_sl As ++ List.replicate (y.2.2.1 - (lg_sl As).length) Slot.unset).toArray) [] := lg_entry_eq m As y.2.2.1
  rw [e3]
  exact R0
