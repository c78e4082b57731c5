section Catch
theorem es_covers {q : Nat × Nat × Nat × Nat} {pc : Nat} : covers (⟨q.1, q.2.1, q.2.2.1, q.2.2.2⟩ : ExceptionTableEntry) pc = (Nat.ble q.1 pc && Nat.blt pc q.2.1) := by
  unfold covers
  cases h1 : Nat.ble q.1 pc <;> cases h2 : Nat.blt pc q.2.1
  · have g1 : ¬ q.1 ≤ pc := fun h => by rw [Nat.ble_eq.mpr h] at h1; cases h1
    simp [g1]
  · have g1 : ¬ q.1 ≤ pc := fun h => by rw [Nat.ble_eq.mpr h] at h1; cases h1
    simp [g1]
  · have g1 : ¬ pc < q.2.1 := fun h => by rw [es_blt.mpr h] at h2; cases h2
    simp [g1]
  · have g1 := Nat.ble_eq.mp h1
    have g2 := es_blt.mp h2
    simp [g1, g2]
theorem es_goOne {Q : Handler → Pre} {E : CtlPost} {e : Env} {d : Bool} {acts : List Action} {s : State} {f : JFrame} {a : Addr} {x : ExceptionTableEntry} {t : List ExceptionTableEntry} {c : ClassId} {cell : Cell} (hx : covers x f.pc = true) (h0 : x.catchType ≠ 0)
    (hl : s.vm.ClassLinks e.platform f.method.cls x.catchType c) (hcell : s.heap[a]? = some cell) (hobj : ∀ k, cell.vm ≠ .statics k)
    (hk : ∃ k, s.vm.classes[cell.cls]? = some k) (hc : ∃ k, s.vm.classes[c]? = some k) :
    wp (findHandler.go f a (x :: t)) Q E e d acts s ↔ (if s.vm.assignable cell.cls c = true then Q (.found x.handlerPc) d acts (s.setVm (s.vm.noted f.method.cls x.catchType (.cls c))) else wp (findHandler.go f a t) Q E e d acts (s.setVm (s.vm.noted f.method.cls x.catchType (.cls c)))) := by
  simp only [covers] at hx
  obtain ⟨ha, ht⟩ := (resolveClass_links e.toSetting hl).op (op := VmOp.resolveClass f.method.cls x.catchType) rfl
  have hal : s.vm.Alike (s.vm.noted f.method.cls x.catchType (.cls c)) := (Vm.Alike.refl s.vm).noted _ _ _
  obtain ⟨k1, hk1⟩ := hk
  obtain ⟨k2, hk2⟩ := hc
  obtain ⟨k1', hk1', -⟩ := hal.2.2 _ _ hk1
  obtain ⟨k2', hk2', -⟩ := hal.2.2 _ _ hk2
  have hfit' : (s.vm.noted f.method.cls x.catchType (.cls c)).assignable cell.cls c = s.vm.assignable cell.cls c := by rw [hal.assignable]
  by_cases hf : s.vm.assignable cell.cls c = true
  · rw [if_pos hf]
    rw [hf] at hfit'
    simp [findHandler.go, hx, h0, ha, ht, hcell, hobj, hk1', hk2', hfit', VmOp.dirties, VmOp.acts]
  · rw [if_neg hf]
    have hf2 : s.vm.assignable cell.cls c = false := by simpa using hf
    rw [hf2] at hfit'
    simp [findHandler.go, hx, h0, ha, ht, hcell, hobj, hk1', hk2', hfit', VmOp.dirties, VmOp.acts]
theorem es_goes {e : Env} {s₀ : State} {f : JFrame} {a : Addr} {cell : Cell} {x h : Nat} {own : String} {args : Array Value} (hpl : e.platform.magicAccessors = ({} : Platform).magicAccessors) (hown : s₀.vm.findClass own = some f.method.cls) (hobj : ∀ k, cell.vm ≠ .statics k) (hx5 : x < 5) (hcl : s₀.vm.findClass (es_exc x) = some cell.cls) (hnc : ∀ x y : Nat, x < 5 → y < 5 → x ≠ y → va_Nc (es_exc x) (es_exc y) s₀) :
    ∀ (hh : List (Nat × Nat × Nat × Nat)) (S : State), s₀.WarmedH S.vm → S.heap[a]? = some cell → (∀ q ∈ hh, q.2.2.2 ≠ 0 ∧ es_ct q.2.2.2 < 5 ∧ (Cond.classLink own q.2.2.2 (es_exc (es_ct q.2.2.2))).before args s₀ = true) → es_hdl es_ct hh f.pc x = some h →
      ∃ vm', s₀.WarmedH vm' ∧ ∀ (Q : Handler → Pre) (E : CtlPost) (d : Bool) (acts : List Action), wp (findHandler.go f a (tableOf hh)) Q E e d acts S ↔ Q (.found h) d acts (S.setVm vm') := by
  intro hh
  induction hh with
  | nil => intro S _ _ _ h0; cases h0
  | cons q t ih =>
    intro S hW hcell hrow hhd
    obtain ⟨g0, g5, glk⟩ := hrow q List.mem_cons_self
    have hrest : ∀ z ∈ t, z.2.2.2 ≠ 0 ∧ es_ct z.2.2.2 < 5 ∧ (Cond.classLink own z.2.2.2 (es_exc (es_ct z.2.2.2))).before args s₀ = true := fun z hz => hrow z (List.mem_cons_of_mem _ hz)
    unfold es_hdl at hhd
    cases hcv : (Nat.ble q.1 f.pc && Nat.blt f.pc q.2.1)
    · rw [hcv] at hhd
      dsimp only [cond_false] at hhd
      obtain ⟨vm', w1, w2⟩ := ih S hW hcell hrest hhd
      refine ⟨vm', w1, fun Q E d acts => ?_⟩
      show wp (findHandler.go f a (⟨q.1, q.2.1, q.2.2.1, q.2.2.2⟩ :: tableOf t)) Q E e d acts S ↔ _
      rw [W.findHandler_go_skip (by rw [es_covers]; exact hcv)]
      exact w2 Q E d acts
    · rw [hcv] at hhd
      dsimp only [cond_true] at hhd
      obtain ⟨c', hc', hlk⟩ := Cond.classLink_spec hown glk e.platform hpl
      obtain ⟨dk, _, _, kt, hd, _, _, _, _, hkt, _, hopn⟩ := hlk.here
      obtain ⟨kt', hkt', -⟩ := hW.alike.2.2 _ _ hkt
      obtain ⟨k0, hk0, -⟩ := Vm.findClass_spec hcl
      obtain ⟨k0', hk0', -⟩ := hW.alike.2.2 _ _ hk0
      have hW2 : s₀.WarmedH (S.vm.noted f.method.cls q.2.2.2 (.cls c')) := hW.noted hd hopn (State.rightAt_cls hlk)
      have hone : ∀ (Q : Handler → Pre) (E : CtlPost) (d : Bool) (acts : List Action), _ := fun Q E d acts => es_goOne (Q := Q) (E := E) (e := e) (d := d) (acts := acts) (s := S) (f := f) (a := a) (x := (⟨q.1, q.2.1, q.2.2.1, q.2.2.2⟩ : ExceptionTableEntry)) (t := tableOf t) (c := c') (cell := cell) (by rw [es_covers]; exact hcv) g0 (hW.classLinks hlk) hcell hobj ⟨k0', hk0'⟩ ⟨kt', hkt'⟩
      cases hcx : Nat.beq (es_ct q.2.2.2) x
      · rw [hcx] at hhd
        dsimp only [cond_false] at hhd
        have hne := es_beqf.mp hcx
        obtain ⟨a8, b8, n1, n2, n3⟩ := hnc x (es_ct q.2.2.2) hx5 g5 (Ne.symm hne)
        cases Option.some.inj (n1.symm.trans hcl)
        cases Option.some.inj (n2.symm.trans hc')
        obtain ⟨vm', w1, w2⟩ := ih (S.setVm (S.vm.noted f.method.cls q.2.2.2 (.cls c'))) hW2 hcell hrest hhd
        refine ⟨vm', w1, fun Q E d acts => ?_⟩
        show wp (findHandler.go f a (⟨q.1, q.2.1, q.2.2.1, q.2.2.2⟩ :: tableOf t)) Q E e d acts S ↔ _
        rw [hone Q E d acts, if_neg (by rw [hW.alike.assignable, n3]; decide)]
        exact w2 Q E d acts
      · rw [hcx] at hhd
        cases hhd
        have he := es_beq.mp hcx
        rw [he] at hc'
        cases Option.some.inj (hcl.symm.trans hc')
        refine ⟨_, hW2, fun Q E d acts => ?_⟩
        show wp (findHandler.go f a (⟨q.1, q.2.1, q.2.2.1, q.2.2.2⟩ :: tableOf t)) Q E e d acts S ↔ _
        rw [hone Q E d acts, if_pos (va_asg _ _)]
theorem es_catch {p : Program} {l : Launch} {e : Env} {R : Room} {s : State} {m : MethodId} {args : Array Value} {below : List Frame} {meth : Method} {c : Code} {H : Heap} {locs : List Loc} {cells slots : Nat} {Q : State → Prop} {pc : Nat} {ls : Array Slot} {rest : List Value} {q : Addr} {ce : Cell} {own : String} {x h : Nat} {hh : List (Nat × Nat × Nat × Nat)}
    (hown : s.vm.findClass own = some m.cls) (htab : c.exceptionTable.toList = tableOf hh) (hx5 : x < 5) (hnc : ∀ x y : Nat, x < 5 → y < 5 → x ≠ y → va_Nc (es_exc x) (es_exc y) s) (hrow : ∀ q ∈ hh, q.2.2.2 ≠ 0 ∧ es_ct q.2.2.2 < 5 ∧ (Cond.classLink own q.2.2.2 (es_exc (es_ct q.2.2.2))).before args s = true) (hhd : es_hdl es_ct hh pc x = some h) (hcell : H[q]? = some ce) (hv : ce.vm = .none) (hcl : s.vm.findClass (es_exc x) = some ce.cls)
    (kk : W p l e R s m args below meth c H locs cells slots Q (F0 m h ls [.ref q])) : vx_W p l e R s m args below meth c H locs cells slots Q (F0 m pc ls rest) q := by
  intro T hT X
  have hpl : e.platform.magicAccessors = ({} : Platform).magicAccessors := by rw [X.admits.platform]
  obtain ⟨vm', hW', hq⟩ := es_goes (e := e) (s₀ := s) (f := F0 m pc ls rest) (a := q) (cell := ce) (args := args) (own := own) hpl hown (fun k h9 => by rw [hv] at h9; cases h9) hx5 hcl hnc hh ((T.setTop (F0 m pc ls rest)).pushFrame (.throwing q)) X.warmed (by show T.heap[q]? = some ce; rw [hT]; exact hcell) hrow hhd
  obtain ⟨t, a1, b1⟩ := kk (T.setVm vm') hT (X.noted hW')
  refine ⟨t, ?_, b1⟩
  have hgoes : ∀ (Q : Handler → Pre) (E : CtlPost) (d : Bool) (acts : List Action), wp (findHandler (F0 m pc ls rest) q) Q E e d acts ((T.setTop (F0 m pc ls rest)).pushFrame (.throwing q)) ↔ Q (.found h) d acts (((T.setTop (F0 m pc ls rest)).pushFrame (.throwing q)).setVm vm') := fun Q E d acts => by
    rw [W.findHandler_eq (meth := meth) (code := c) X.method' X.code, htab]
    exact hq Q E d acts
  have hst : (stepThrowing e ((T.setTop (F0 m pc ls rest)).pushFrame (.throwing q)) q (.java (F0 m pc ls rest) :: below)).Is ((((T.setTop (F0 m pc ls rest)).pushFrame (.throwing q)).setVm vm').setFrames (.java { (F0 m pc ls rest) with pc := h, stack := [.ref q] } :: below)) [] := by
    simp only [stepThrowing, searchFrame, vmDo]
    generalize hr : Sem.go _ e false [] ((T.setTop (F0 m pc ls rest)).pushFrame (.throwing q)) = res
    obtain ⟨as, rfl, ha⟩ := Sem.eq_ok_of hr (a := Handler.found h) (s' := ((T.setTop (F0 m pc ls rest)).pushFrame (.throwing q)).setVm vm') (acts' := []) (by simp [hgoes])
    exact ⟨rfl, ha⟩
  have hAt : At T (F0 m pc ls rest).method c below := X.here
  obtain ⟨hgo, hw⟩ := hAt.throwing q
  refine Steps.head hgo hw ?_
  rw [stepThread_throwing (frames_entered hAt.top _)]
  obtain ⟨g₀, hfr⟩ := X.frames_eq
  have hr' : (T.setVm vm').frames = .java g₀ :: below := hfr
  rw [State.setTop_of_frames _ hr'] at a1
  rw [hfr, List.tail_cons, hst.1, State.pushFrame, State.setTop_of_frames _ hfr]
  have hz : ∀ (u : State) (F G : List Frame), ((u.setFrames F).setVm vm').setFrames G = (u.setVm vm').setFrames G := fun u F G => by
    have h1 : (u.setFrames F).setVm vm' = (u.setVm vm').setFrames F := rfl
    rw [h1, State.setFrames_setFrames]
  rw [State.setFrames_setFrames, hz]
  exact a1
end Catch
