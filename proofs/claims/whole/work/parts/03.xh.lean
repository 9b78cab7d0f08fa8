/-! own rows: a throw that a row of the method's own table takes, behind rows that pass it on; the rows' classes may be linked at that moment -/
section XH
theorem xh_go1 {e : Env} {d : Bool} {acts : List Action} {s : State} {f : JFrame} {a : Addr} {Q : Handler → Pre} {E : CtlPost} {x : ExceptionTableEntry} {t : List ExceptionTableEntry} {c : ClassId} {cell : Cell} (hx : covers x f.pc = true) (h0 : x.catchType ≠ 0)
    (hl : s.vm.ClassLinks e.platform f.method.cls x.catchType c) (hcell : s.heap[a]? = some cell) (hobj : ∀ k, cell.vm ≠ .statics k) {kx : Class} (hk : s.vm.classes[cell.cls]? = some kx) {kc : Class} (hc : s.vm.classes[c]? = some kc) :
    wp (findHandler.go f a (x :: t)) Q E e d acts s ↔ if s.vm.assignable cell.cls c = true then Q (.found x.handlerPc) d acts (s.setVm (s.vm.noted f.method.cls x.catchType (.cls c))) else wp (findHandler.go f a t) Q E e d acts (s.setVm (s.vm.noted f.method.cls x.catchType (.cls c))) := by
  simp only [covers] at hx
  have al : s.vm.Alike (s.vm.noted f.method.cls x.catchType (.cls c)) := (Vm.Alike.refl s.vm).noted _ _ _
  obtain ⟨ha, ht⟩ := (resolveClass_links e.toSetting hl).op (op := VmOp.resolveClass f.method.cls x.catchType) rfl
  obtain ⟨k1, g1, -⟩ := al.2.2 _ _ hk
  obtain ⟨k2, g2, -⟩ := al.2.2 _ _ hc
  have as1 : (s.vm.noted f.method.cls x.catchType (.cls c)).assignable cell.cls c = s.vm.assignable cell.cls c := by rw [al.assignable]
  cases hq : s.vm.assignable cell.cls c <;> rw [hq] at as1 <;> simp [findHandler.go, hx, h0, ha, ht, hcell, hobj, g1, g2, as1, VmOp.dirties, VmOp.acts]
theorem xh_goL {e : Env} {s₀ : State} {f : JFrame} {a : Addr} {cell : Cell} (hobj : ∀ k, cell.vm ≠ .statics k) {kx : Class} (hk : s₀.vm.classes[cell.cls]? = some kx) {x : ExceptionTableEntry} {suf : List ExceptionTableEntry} (hx : covers x f.pc = true) (h0 : x.catchType ≠ 0) {cx : ClassId}
    (hl : s₀.vm.ClassLinks e.platform f.method.cls x.catchType cx) (hfit : s₀.vm.assignable cell.cls cx = true) : ∀ (pre : List ExceptionTableEntry) (S : State), s₀.WarmedH S.vm → S.heap[a]? = some cell →
    (∀ z ∈ pre, covers z f.pc = false ∨ (z.catchType ≠ 0 ∧ ∃ cz, s₀.vm.ClassLinks e.platform f.method.cls z.catchType cz ∧ s₀.vm.assignable cell.cls cz = false)) →
    ∃ vm1, s₀.WarmedH vm1 ∧ ∀ (Q : Handler → Pre) (E : CtlPost) (d : Bool) (acts : List Action), wp (findHandler.go f a (pre ++ x :: suf)) Q E e d acts S ↔ Q (.found x.handlerPc) d acts (S.setVm vm1) := by
  have one : ∀ (z : ExceptionTableEntry) (cz : ClassId) (S : State), s₀.vm.ClassLinks e.platform f.method.cls z.catchType cz → s₀.WarmedH S.vm → s₀.WarmedH (S.vm.noted f.method.cls z.catchType (.cls cz)) ∧ S.vm.ClassLinks e.platform f.method.cls z.catchType cz ∧ (∃ k, S.vm.classes[cell.cls]? = some k) ∧ (∃ k, S.vm.classes[cz]? = some k) ∧ S.vm.assignable cell.cls cz = s₀.vm.assignable cell.cls cz := by
    intro z cz S h1 h2
    obtain ⟨k1, g1, -⟩ := h2.alike.2.2 _ _ hk
    obtain ⟨dk, _, _, kt, hd, _, _, _, _, hkt, _, hop⟩ := h1.here
    obtain ⟨k2, g2, -⟩ := h2.alike.2.2 _ _ hkt
    exact ⟨h2.noted hd hop (State.rightAt_cls h1), h2.classLinks h1, ⟨k1, g1⟩, ⟨k2, g2⟩, by rw [h2.alike.assignable]⟩
  intro pre
  induction pre with
  | nil =>
    intro S hW hce _
    obtain ⟨w1, w2, ⟨k1, w3⟩, ⟨k2, w4⟩, w5⟩ := one x cx S hl hW
    refine ⟨_, w1, fun Q E d acts => ?_⟩
    rw [List.nil_append, xh_go1 hx h0 w2 hce hobj w3 w4, if_pos (w5.trans hfit)]
  | cons z zs ih =>
    intro S hW hce hp
    have hp' := fun y hy => hp y (List.mem_cons_of_mem _ hy)
    cases hcz : covers z f.pc with
    | false =>
      obtain ⟨vm1, w1, w2⟩ := ih S hW hce hp'
      exact ⟨vm1, w1, fun Q E d acts => by rw [List.cons_append, W.findHandler_go_skip hcz]; exact w2 Q E d acts⟩
    | true =>
      rcases hp z List.mem_cons_self with h | ⟨hz0, cz, hz1, hz2⟩
      · rw [h] at hcz; cases hcz
      · obtain ⟨w1, w2, ⟨k1, w3⟩, ⟨k2, w4⟩, w5⟩ := one z cz S hz1 hW
        obtain ⟨vm1, u1, u2⟩ := ih (S.setVm (S.vm.noted f.method.cls z.catchType (.cls cz))) w1 hce hp'
        refine ⟨vm1, u1, fun Q E d acts => ?_⟩
        rw [List.cons_append, xh_go1 hcz hz0 w2 hce hobj w3 w4, if_neg (by rw [w5, hz2]; decide)]
        exact u2 Q E d acts
theorem xh_caught {p : Program} {l : Launch} {e : Env} {R : Room} {s : State} {m : MethodId} {args : Array Value} {below : List Frame} {meth : Method} {c : Code} {T : State} {locs : List Loc} {cells slots : Nat}
    (X : Stand p l e R s m args below meth c T locs cells slots) (q : Addr) {g : JFrame} (hg : g.method = m) {cell : Cell} (hcell : T.heap[q]? = some cell) (hobj : cell.vm.isStatics = false) {kx : Class} (hk : s.vm.classes[cell.cls]? = some kx)
    (pre : List ExceptionTableEntry) (x : ExceptionTableEntry) (suf : List ExceptionTableEntry) (hsplit : c.exceptionTable.toList = pre ++ x :: suf)
    (hpass : ∀ z ∈ pre, covers z g.pc = false ∨ (z.catchType ≠ 0 ∧ ∃ cz, s.vm.ClassLinks e.platform m.cls z.catchType cz ∧ s.vm.assignable cell.cls cz = false))
    (hx : covers x g.pc = true) (h0 : x.catchType ≠ 0) {cx : ClassId} (hl : s.vm.ClassLinks e.platform m.cls x.catchType cx) (hfit : s.vm.assignable cell.cls cx = true) :
    ∃ vm1, Stand p l e R s m args below meth c (T.setVm vm1) locs cells slots ∧ Steps p.tables e below ((T.setTop g).pushFrame (.throwing q)) ((T.setVm vm1).setTop { g with pc := x.handlerPc, stack := [.ref q] }) := by
  subst hg
  obtain ⟨vm1, w1, w2⟩ := xh_goL (f := g) (a := q) (VmData.ne_statics_of hobj) hk hx h0 hl hfit pre ((T.setTop g).pushFrame (.throwing q)) X.warmed hcell hpass
  have hm9 : ((T.setTop g).pushFrame (.throwing q)).vm.method? g.method = some meth := X.method'
  have w3 : ∀ (Q : Handler → Pre) (E : CtlPost) (d : Bool) (acts : List Action), wp (findHandler g q) Q E e d acts ((T.setTop g).pushFrame (.throwing q)) ↔ Q (.found x.handlerPc) d acts (((T.setTop g).pushFrame (.throwing q)).setVm vm1) := fun Q E d acts => by
    rw [W.findHandler_eq hm9 X.code, hsplit]; exact w2 Q E d acts
  refine ⟨vm1, X.noted w1, ?_⟩
  obtain ⟨hgo, hw⟩ := X.here.throwing q
  refine Steps.head hgo hw ?_
  have hst : ∀ r : List Frame, (stepThrowing e ((T.setTop g).pushFrame (.throwing q)) q (.java g :: r)).1 = (((T.setTop g).pushFrame (.throwing q)).setVm vm1).setFrames (.java { g with pc := x.handlerPc, stack := [.ref q] } :: r) := by
    intro r
    have : (stepThrowing e ((T.setTop g).pushFrame (.throwing q)) q (.java g :: r)).Is ((((T.setTop g).pushFrame (.throwing q)).setVm vm1).setFrames (.java { g with pc := x.handlerPc, stack := [.ref q] } :: r)) [] := by
      simp only [stepThrowing, searchFrame, vmDo]
      generalize hr : Sem.go _ e false [] ((T.setTop g).pushFrame (.throwing q)) = res
      obtain ⟨as, rfl, ha⟩ := Sem.eq_ok_of hr (a := Handler.found x.handlerPc) (s' := ((T.setTop g).pushFrame (.throwing q)).setVm vm1) (acts' := []) (by simp [w3 _ _ _ _])
      exact ⟨rfl, ha⟩
    exact this.1
  rw [stepThread_throwing (frames_entered X.here.top _), hst]
  obtain ⟨g₀, hg0⟩ := Option.isSome_iff_exists.mp X.here.top
  obtain ⟨r, hr⟩ := State.topJava?_eq_some.mp hg0
  have hr1 : (T.setVm vm1).frames = .java g₀ :: r := hr
  have mv : ∀ (u : State) (F G : List Frame), ((u.setFrames F).setVm vm1).setFrames G = (u.setVm vm1).setFrames G := fun u F G => by
    rw [show (u.setFrames F).setVm vm1 = (u.setVm vm1).setFrames F from rfl, State.setFrames_setFrames]
  rw [State.setTop_of_frames _ hr1, hr, List.tail_cons, State.pushFrame, mv, State.setTop_of_frames _ hr, mv]
  exact Steps.refl _
end XH
