/-! the machine catches: the rows of a method's table are tried one by one; a row's class is linked as it is tried (own rows: the library's law of this lies where a round doesn't reach) -/
section XC
def xc_ok (s : State) (args : Array Value) (own E : String) (pc : Nat) : List ExceptionTableEntry → Nat → Prop
  | [], _ => False
  | x :: t, h => (covers x pc = false ∧ xc_ok s args own E pc t h) ∨ (covers x pc = true ∧ x.catchType ≠ 0 ∧ ∃ nm : String, (Cond.classLink own x.catchType nm).before args s = true ∧ (((Cond.castable E nm).before args s = true ∧ x.handlerPc = h) ∨ (va_Nc E nm s ∧ xc_ok s args own E pc t h)))
theorem xc_row {Q : Handler → Pre} {E : CtlPost} {e : Env} {d : Bool} {acts : List Action} {S : State} {f : JFrame} {a : Addr} {x : ExceptionTableEntry} {t : List ExceptionTableEntry} {k : ClassId} {cell : Cell} (hx : covers x f.pc = true) (h0 : x.catchType ≠ 0)
    (hl : S.vm.ClassLinks e.platform f.method.cls x.catchType k) (hc : S.heap[a]? = some cell) (ho : ∀ z, cell.vm ≠ .statics z) (h1 : ∃ z, S.vm.classes[cell.cls]? = some z) (h2 : ∃ z, S.vm.classes[k]? = some z) :
    (S.vm.assignable cell.cls k = true → (wp (findHandler.go f a (x :: t)) Q E e d acts S ↔ Q (.found x.handlerPc) d acts (S.setVm (S.vm.noted f.method.cls x.catchType (.cls k))))) ∧
    (S.vm.assignable cell.cls k = false → (wp (findHandler.go f a (x :: t)) Q E e d acts S ↔ wp (findHandler.go f a t) Q E e d acts (S.setVm (S.vm.noted f.method.cls x.catchType (.cls k))))) := by
  have hal : S.vm.Alike (S.vm.noted f.method.cls x.catchType (.cls k)) := (Vm.Alike.refl S.vm).noted _ _ _
  obtain ⟨z1, hz1⟩ := h1
  obtain ⟨z2, hz2⟩ := h2
  obtain ⟨y1, hy1, -⟩ := hal.2.2 _ _ hz1
  obtain ⟨y2, hy2, -⟩ := hal.2.2 _ _ hz2
  obtain ⟨ha, ht⟩ := (resolveClass_links e.toSetting hl).op (op := VmOp.resolveClass f.method.cls x.catchType) rfl
  simp only [covers] at hx
  refine ⟨fun hg => ?_, fun hg => ?_⟩ <;> rw [← hal.assignable] at hg <;> simp [findHandler.go, hx, h0, ha, ht, hc, ho, hy1, hy2, hg, VmOp.dirties, VmOp.acts]
theorem xc_scan {e : Env} {s : State} {args : Array Value} {own E9 : String} {f : JFrame} {a : Addr} {cell : Cell} {h : Nat} (hpl : e.platform.magicAccessors = ({} : Platform).magicAccessors) (hown : s.vm.findClass own = some f.method.cls) (hE : s.vm.findClass E9 = some cell.cls) (ho : ∀ z, cell.vm ≠ .statics z) :
    ∀ (rows : List ExceptionTableEntry) (S : State), s.WarmedH S.vm → S.heap[a]? = some cell → xc_ok s args own E9 f.pc rows h →
      ∃ vm', s.WarmedH vm' ∧ ∀ (Q : Handler → Pre) (E : CtlPost) (d : Bool) (acts : List Action), wp (findHandler.go f a rows) Q E e d acts S ↔ Q (.found h) d acts (S.setVm vm') := by
  intro rows
  induction rows with
  | nil => intro S _ _ hok; exact hok.elim
  | cons x t ih =>
    intro S hW hc hok
    rcases hok with ⟨hx, hok⟩ | ⟨hx, h0, nm, hlk, hrest⟩
    · obtain ⟨vm', hW', hq⟩ := ih S hW hc hok
      exact ⟨vm', hW', fun Q E d acts => by rw [W.findHandler_go_skip hx]; exact hq Q E d acts⟩
    · obtain ⟨k, hk, hl⟩ := Cond.classLink_spec hown hlk e.platform hpl
      obtain ⟨dk, _, _, kt, hd, _, _, _, _, hkt, _, hopen⟩ := hl.here
      obtain ⟨kc, hkc, -⟩ := Vm.findClass_spec hE
      obtain ⟨y1, hy1, -⟩ := hW.alike.2.2 _ _ hkc
      obtain ⟨y2, hy2, -⟩ := hW.alike.2.2 _ _ hkt
      have hW2 := hW.noted hd hopen (State.rightAt_cls hl)
      rcases hrest with ⟨hcast, rfl⟩ | ⟨⟨c1, c2, e1, e2, e3⟩, hok⟩
      · obtain ⟨c3, c4, g3, g4, hasg⟩ := Cond.castable_spec hcast
        cases Option.some.inj (g3.symm.trans hE)
        cases Option.some.inj (g4.symm.trans hk)
        exact ⟨_, hW2, fun Q E d acts => (xc_row hx h0 (hW.classLinks hl) hc ho ⟨y1, hy1⟩ ⟨y2, hy2⟩).1 (by rw [hW.alike.assignable]; exact hasg)⟩
      · cases Option.some.inj (e1.symm.trans hE)
        cases Option.some.inj (e2.symm.trans hk)
        obtain ⟨vm', hW', hq⟩ := ih (S.setVm (S.vm.noted f.method.cls x.catchType (.cls k))) hW2 hc hok
        exact ⟨vm', hW', fun Q E d acts => ((xc_row hx h0 (hW.classLinks hl) hc ho ⟨y1, hy1⟩ ⟨y2, hy2⟩).2 (by rw [hW.alike.assignable]; exact e3)).trans (hq Q E d acts)⟩
variable {p : Program} {l : Launch} {e : Env} {R : Room} {s : State} {m : MethodId} {args : Array Value} {below : List Frame} {meth : Method} {c : Code} {H : Heap} {locs : List Loc} {cells slots : Nat} {Q : State → Prop}
/-- q, of the class E, is thrown at pc, and this method's table takes it: on at the handler -/
theorem xc_catch {own E : String} {pc h : Nat} {ls : Array Slot} {rest : List Value} {ce : Cell} {q : Addr} (hown : s.vm.findClass own = some m.cls) (hok : xc_ok s args own E pc c.exceptionTable.toList h) (hcell : H[q]? = some ce) (hv : ce.vm = .none) (hcl : s.vm.findClass E = some ce.cls)
    (kk : W p l e R s m args below meth c H locs cells slots Q (F0 m h ls [.ref q])) : vx_W p l e R s m args below meth c H locs cells slots Q (F0 m pc ls rest) q := by
  intro T hT X
  have hpl : e.platform.magicAccessors = ({} : Platform).magicAccessors := by rw [X.admits.platform]
  obtain ⟨vm', hW', hq⟩ := xc_scan (e := e) (f := F0 m pc ls rest) (a := q) hpl hown hcl (fun z hz => by rw [hv] at hz; cases hz) c.exceptionTable.toList ((T.setTop (F0 m pc ls rest)).pushFrame (.throwing q)) (by rw [throwing_vm]; exact X.warmed) (by rw [throwing_heap, hT]; exact hcell) hok
  obtain ⟨t, a1, b1⟩ := kk (T.setVm vm') hT (X.noted hW')
  refine ⟨t, ?_, b1⟩
  obtain ⟨hgo, hw⟩ := At.throwing (g := F0 m pc ls rest) X.here q
  refine Steps.head hgo hw ?_
  rw [stepThread_throwing (frames_entered X.here.top _)]
  obtain ⟨g₀, hg⟩ := Option.isSome_iff_exists.mp X.here.top
  obtain ⟨r, hr⟩ := State.topJava?_eq_some.mp hg
  have hr' : (T.setVm vm').frames = .java g₀ :: r := hr
  have hfind : ∀ (Q : Handler → Pre) (E : CtlPost) (d : Bool) (acts : List Action), wp (findHandler (F0 m pc ls rest) q) Q E e d acts ((T.setTop (F0 m pc ls rest)).pushFrame (.throwing q)) ↔ Q (.found h) d acts (((T.setTop (F0 m pc ls rest)).pushFrame (.throwing q)).setVm vm') := fun Q E d acts => by
    rw [W.findHandler_eq (f := F0 m pc ls rest) (by rw [throwing_vm]; exact X.method') X.code]
    exact hq Q E d acts
  have key : ∀ (u : State) (F : List Frame), (u.setFrames F).setVm vm' = (u.setVm vm').setFrames F := fun _ _ => rfl
  have hst : (stepThrowing e ((T.setTop (F0 m pc ls rest)).pushFrame (.throwing q)) q (.java (F0 m pc ls rest) :: T.frames.tail)).1 = (((T.setTop (F0 m pc ls rest)).pushFrame (.throwing q)).setVm vm').setFrames (.java (F0 m h ls [.ref q]) :: T.frames.tail) := by
    simp only [stepThrowing, searchFrame, vmDo]
    generalize hres : Sem.go _ e false [] ((T.setTop (F0 m pc ls rest)).pushFrame (.throwing q)) = res
    obtain ⟨as, rfl, ha⟩ := Sem.eq_ok_of hres (a := Handler.found h) (s' := ((T.setTop (F0 m pc ls rest)).pushFrame (.throwing q)).setVm vm') (acts' := []) (by simp [hfind])
    rfl
  rw [State.setTop_of_frames _ hr'] at a1
  rw [hst, hr, List.tail_cons, State.pushFrame, State.setTop_of_frames _ hr, key, key, State.setFrames_setFrames, State.setFrames_setFrames]
  exact a1
end XC
