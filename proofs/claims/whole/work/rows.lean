section
-- ===== PART A: goes FIRST, ahead of the names: the tables' words, and 'selects' of the private methods out of them =====
/-- a private method of a class that the tables say can be made, by its rows of tables_1 -/
def lw_okq (q : MethodName × Nat) : Prop := (q.1.cls ≠ "java/lang/invoke/MethodHandle" ∧ q.1.cls ≠ "java/lang/invoke/VarHandle") ∧ Cond.instantiable q.1.cls q.2 ∈ tables_1 ∧ Cond.privateMethod q.1 ∈ tables_1 ∧ Cond.instanceMethod q.1 ∈ tables_1
theorem lw_p0 : lw_okq (⟨"GameArbiter", "factOf", "(II)I"⟩, 4) := ⟨⟨by decide +kernel, by decide +kernel⟩, List.mem_of_getElem? (i := 12) (by decide +kernel), List.mem_of_getElem? (i := 56) (by decide +kernel), List.mem_of_getElem? (i := 57) (by decide +kernel)⟩
theorem lw_p1 : lw_okq (⟨"GameArbiter", "differentPositions", "()I"⟩, 4) := ⟨⟨by decide +kernel, by decide +kernel⟩, List.mem_of_getElem? (i := 12) (by decide +kernel), List.mem_of_getElem? (i := 64) (by decide +kernel), List.mem_of_getElem? (i := 65) (by decide +kernel)⟩
theorem lw_p2 : lw_okq (⟨"GameArbiter", "greatest", "(I)I"⟩, 4) := ⟨⟨by decide +kernel, by decide +kernel⟩, List.mem_of_getElem? (i := 12) (by decide +kernel), List.mem_of_getElem? (i := 68) (by decide +kernel), List.mem_of_getElem? (i := 69) (by decide +kernel)⟩
theorem lw_p3 : lw_okq (⟨"java/lang/Throwable", "fillInStackTrace", "(I)Ljava/lang/Throwable;"⟩, 6) := ⟨⟨by decide +kernel, by decide +kernel⟩, List.mem_of_getElem? (i := 130) (by decide +kernel), List.mem_of_getElem? (i := 128) (by decide +kernel), List.mem_of_getElem? (i := 129) (by decide +kernel)⟩
theorem lw_p4 : lw_okq (⟨"GameArbiter", "append", "(IIZI)I"⟩, 4) := ⟨⟨by decide +kernel, by decide +kernel⟩, List.mem_of_getElem? (i := 12) (by decide +kernel), List.mem_of_getElem? (i := 160) (by decide +kernel), List.mem_of_getElem? (i := 161) (by decide +kernel)⟩
theorem lw_p5 : lw_okq (⟨"GameArbiter", "lastSame", "(I)I"⟩, 4) := ⟨⟨by decide +kernel, by decide +kernel⟩, List.mem_of_getElem? (i := 12) (by decide +kernel), List.mem_of_getElem? (i := 164) (by decide +kernel), List.mem_of_getElem? (i := 165) (by decide +kernel)⟩
theorem lw_p6 : lw_okq (⟨"GameArbiter", "hasGivenSquares", "(I)Z"⟩, 4) := ⟨⟨by decide +kernel, by decide +kernel⟩, List.mem_of_getElem? (i := 12) (by decide +kernel), List.mem_of_getElem? (i := 168) (by decide +kernel), List.mem_of_getElem? (i := 169) (by decide +kernel)⟩
theorem lw_p7 : lw_okq (⟨"GameArbiter", "countUpTo", "(I)I"⟩, 4) := ⟨⟨by decide +kernel, by decide +kernel⟩, List.mem_of_getElem? (i := 12) (by decide +kernel), List.mem_of_getElem? (i := 172) (by decide +kernel), List.mem_of_getElem? (i := 173) (by decide +kernel)⟩
theorem lw_p8 : lw_okq (⟨"GameArbiter", "isPosition", "(I)Z"⟩, 4) := ⟨⟨by decide +kernel, by decide +kernel⟩, List.mem_of_getElem? (i := 12) (by decide +kernel), List.mem_of_getElem? (i := 176) (by decide +kernel), List.mem_of_getElem? (i := 177) (by decide +kernel)⟩
theorem lw_p9 : lw_okq (⟨"GameArbiter", "countGiven", "(I)I"⟩, 4) := ⟨⟨by decide +kernel, by decide +kernel⟩, List.mem_of_getElem? (i := 12) (by decide +kernel), List.mem_of_getElem? (i := 180) (by decide +kernel), List.mem_of_getElem? (i := 181) (by decide +kernel)⟩
theorem lw_p10 : lw_okq (⟨"GameArbiter", "manGiven", "(I)I"⟩, 4) := ⟨⟨by decide +kernel, by decide +kernel⟩, List.mem_of_getElem? (i := 12) (by decide +kernel), List.mem_of_getElem? (i := 184) (by decide +kernel), List.mem_of_getElem? (i := 185) (by decide +kernel)⟩
theorem lw_p11 : lw_okq (⟨"GameArbiter", "isGivenDead", "(I)Z"⟩, 4) := ⟨⟨by decide +kernel, by decide +kernel⟩, List.mem_of_getElem? (i := 12) (by decide +kernel), List.mem_of_getElem? (i := 188) (by decide +kernel), List.mem_of_getElem? (i := 189) (by decide +kernel)⟩
theorem lw_p12 : lw_okq (⟨"GameArbiter", "firstSquareGiven", "(I)I"⟩, 4) := ⟨⟨by decide +kernel, by decide +kernel⟩, List.mem_of_getElem? (i := 12) (by decide +kernel), List.mem_of_getElem? (i := 192) (by decide +kernel), List.mem_of_getElem? (i := 193) (by decide +kernel)⟩
theorem lw_p13 : lw_okq (⟨"GameArbiter", "takesAnother", "()Z"⟩, 4) := ⟨⟨by decide +kernel, by decide +kernel⟩, List.mem_of_getElem? (i := 12) (by decide +kernel), List.mem_of_getElem? (i := 213) (by decide +kernel), List.mem_of_getElem? (i := 214) (by decide +kernel)⟩
theorem lw_p14 : lw_okq (⟨"GameArbiterModel", "add", "(IIZI)I"⟩, 7) := ⟨⟨by decide +kernel, by decide +kernel⟩, List.mem_of_getElem? (i := 274) (by decide +kernel), List.mem_of_getElem? (i := 320) (by decide +kernel), List.mem_of_getElem? (i := 321) (by decide +kernel)⟩
theorem lw_p15 : lw_okq (⟨"GameArbiterModel", "verdictOf", "(IIZ)I"⟩, 7) := ⟨⟨by decide +kernel, by decide +kernel⟩, List.mem_of_getElem? (i := 274) (by decide +kernel), List.mem_of_getElem? (i := 324) (by decide +kernel), List.mem_of_getElem? (i := 325) (by decide +kernel)⟩
def lw_privs_1 : List (MethodName × Nat) := [(⟨"GameArbiter", "factOf", "(II)I"⟩, 4), (⟨"GameArbiter", "differentPositions", "()I"⟩, 4), (⟨"GameArbiter", "greatest", "(I)I"⟩, 4), (⟨"java/lang/Throwable", "fillInStackTrace", "(I)Ljava/lang/Throwable;"⟩, 6), (⟨"GameArbiter", "append", "(IIZI)I"⟩, 4), (⟨"GameArbiter", "lastSame", "(I)I"⟩, 4), (⟨"GameArbiter", "hasGivenSquares", "(I)Z"⟩, 4), (⟨"GameArbiter", "countUpTo", "(I)I"⟩, 4), (⟨"GameArbiter", "isPosition", "(I)Z"⟩, 4), (⟨"GameArbiter", "countGiven", "(I)I"⟩, 4), (⟨"GameArbiter", "manGiven", "(I)I"⟩, 4), (⟨"GameArbiter", "isGivenDead", "(I)Z"⟩, 4), (⟨"GameArbiter", "firstSquareGiven", "(I)I"⟩, 4), (⟨"GameArbiter", "takesAnother", "()Z"⟩, 4), (⟨"GameArbiterModel", "add", "(IIZI)I"⟩, 7), (⟨"GameArbiterModel", "verdictOf", "(IIZ)I"⟩, 7)]
theorem lw_r1 : ∀ q ∈ lw_privs_1, lw_okq q := List.forall_mem_cons.mpr ⟨lw_p0, List.forall_mem_cons.mpr ⟨lw_p1, List.forall_mem_cons.mpr ⟨lw_p2, List.forall_mem_cons.mpr ⟨lw_p3, List.forall_mem_cons.mpr ⟨lw_p4, List.forall_mem_cons.mpr ⟨lw_p5, List.forall_mem_cons.mpr ⟨lw_p6, List.forall_mem_cons.mpr ⟨lw_p7, List.forall_mem_cons.mpr ⟨lw_p8, List.forall_mem_cons.mpr ⟨lw_p9, List.forall_mem_cons.mpr ⟨lw_p10, List.forall_mem_cons.mpr ⟨lw_p11, List.forall_mem_cons.mpr ⟨lw_p12, List.forall_mem_cons.mpr ⟨lw_p13, List.forall_mem_cons.mpr ⟨lw_p14, List.forall_mem_cons.mpr ⟨lw_p15, fun _ h => absurd h List.not_mem_nil⟩⟩⟩⟩⟩⟩⟩⟩⟩⟩⟩⟩⟩⟩⟩⟩
theorem lw_p16 : lw_okq (⟨"GameArbiterModel", "countOf", "(I)I"⟩, 7) := ⟨⟨by decide +kernel, by decide +kernel⟩, List.mem_of_getElem? (i := 274) (by decide +kernel), List.mem_of_getElem? (i := 328) (by decide +kernel), List.mem_of_getElem? (i := 329) (by decide +kernel)⟩
theorem lw_p17 : lw_okq (⟨"GameArbiterModel", "isSame", "(II)Z"⟩, 7) := ⟨⟨by decide +kernel, by decide +kernel⟩, List.mem_of_getElem? (i := 274) (by decide +kernel), List.mem_of_getElem? (i := 332) (by decide +kernel), List.mem_of_getElem? (i := 333) (by decide +kernel)⟩
theorem lw_p18 : lw_okq (⟨"GameArbiterModel", "isDead", "(I)Z"⟩, 7) := ⟨⟨by decide +kernel, by decide +kernel⟩, List.mem_of_getElem? (i := 274) (by decide +kernel), List.mem_of_getElem? (i := 336) (by decide +kernel), List.mem_of_getElem? (i := 337) (by decide +kernel)⟩
theorem lw_p19 : lw_okq (⟨"GameArbiterModel", "howMany", "(II)I"⟩, 7) := ⟨⟨by decide +kernel, by decide +kernel⟩, List.mem_of_getElem? (i := 274) (by decide +kernel), List.mem_of_getElem? (i := 340) (by decide +kernel), List.mem_of_getElem? (i := 341) (by decide +kernel)⟩
theorem lw_p20 : lw_okq (⟨"GameArbiterModel", "colour", "(II)I"⟩, 7) := ⟨⟨by decide +kernel, by decide +kernel⟩, List.mem_of_getElem? (i := 274) (by decide +kernel), List.mem_of_getElem? (i := 344) (by decide +kernel), List.mem_of_getElem? (i := 345) (by decide +kernel)⟩
theorem lw_p21 : lw_okq (⟨"GameArbiterModel", "isIn", "(I)Z"⟩, 7) := ⟨⟨by decide +kernel, by decide +kernel⟩, List.mem_of_getElem? (i := 274) (by decide +kernel), List.mem_of_getElem? (i := 364) (by decide +kernel), List.mem_of_getElem? (i := 365) (by decide +kernel)⟩
theorem lw_p22 : lw_okq (⟨"GameArbiterModel", "isNext", "(II)Z"⟩, 7) := ⟨⟨by decide +kernel, by decide +kernel⟩, List.mem_of_getElem? (i := 274) (by decide +kernel), List.mem_of_getElem? (i := 376) (by decide +kernel), List.mem_of_getElem? (i := 377) (by decide +kernel)⟩
def lw_privs_2 : List (MethodName × Nat) := [(⟨"GameArbiterModel", "countOf", "(I)I"⟩, 7), (⟨"GameArbiterModel", "isSame", "(II)Z"⟩, 7), (⟨"GameArbiterModel", "isDead", "(I)Z"⟩, 7), (⟨"GameArbiterModel", "howMany", "(II)I"⟩, 7), (⟨"GameArbiterModel", "colour", "(II)I"⟩, 7), (⟨"GameArbiterModel", "isIn", "(I)Z"⟩, 7), (⟨"GameArbiterModel", "isNext", "(II)Z"⟩, 7)]
theorem lw_r2 : ∀ q ∈ lw_privs_2, lw_okq q := List.forall_mem_cons.mpr ⟨lw_p16, List.forall_mem_cons.mpr ⟨lw_p17, List.forall_mem_cons.mpr ⟨lw_p18, List.forall_mem_cons.mpr ⟨lw_p19, List.forall_mem_cons.mpr ⟨lw_p20, List.forall_mem_cons.mpr ⟨lw_p21, List.forall_mem_cons.mpr ⟨lw_p22, fun _ h => absurd h List.not_mem_nil⟩⟩⟩⟩⟩⟩⟩
def lw_privs : List (MethodName × Nat) := lw_privs_1 ++ (lw_privs_2)
def lw_tbl : List Cond := k2_sels lw_privs ++ tables_1
theorem lw_privs_ok : ∀ q ∈ lw_privs, lw_okq q := by
  show ∀ q ∈ lw_privs_1 ++ (lw_privs_2), lw_okq q
  exact List.forall_mem_append.mpr ⟨lw_r1, lw_r2⟩
end
section
/-! ===== BEGIN words of one list among another's, by their places ===== -/
theorem goodIn_r {big : List Cond} (ws : List Cond) (ps : List Nat) (hp : ws = ps.filterMap (fun i => big[i]?)) (h : ws.all goodWord = true) : GoodIn big ws := by
  intro w hw
  have h1 := List.all_eq_true.mp h w hw
  rw [hp] at hw
  obtain ⟨i, -, hi⟩ := List.mem_filterMap.mp hw
  have hm : w ∈ big := by first | exact List.mem_of_getElem? hi | exact List.getElem?_mem hi
  exact ⟨hm, good_of_word h1⟩
theorem goodIn_app {big a b : List Cond} (ha : GoodIn big a) (hb : GoodIn big b) : GoodIn big (a ++ b) := fun w h => (List.mem_append.mp h).elim (ha w) (hb w)
theorem goodIn_ca {big a b : List Cond} {c : Cond} (ha : GoodIn big (c :: a)) (hb : GoodIn big b) : GoodIn big (c :: (a ++ b)) := fun w h => (List.mem_cons.mp h).elim (fun e => ha w (List.mem_cons.mpr (Or.inl e))) (fun h => (List.mem_append.mp h).elim (fun h => ha w (List.mem_cons.mpr (Or.inr h))) (hb w))
theorem goodIn_sub {big ws : List Cond} (hm : ∀ w ∈ ws, w ∈ big) (h : ws.all goodWord = true) : GoodIn big ws := fun w hw => ⟨hm w hw, good_of_word (List.all_eq_true.mp h w hw)⟩
/-! ===== END ===== -/

/-! ===== BEGIN exceptions that leave a method, and their catching by the caller (launches without stack traces) ===== -/
section VXA
/-! The laws vx_back, vx_callV, vx_callS, vx_callSW, vx_throw0, vx_throwS follow proofs of the library, with one case more: JvmDerived/Free/Laws.lean (Back.of_free), Shelf42/LK1.lean (callV, callS), Shelf/KitTraced.lean (throwNew0V, throwNewS). -/
/-- where a method has thrown q: the class by its name, the cell, what was written, the world -/
def vx_T (XC : String → State → State → Prop) (st : State) (q : Addr) (t : State) (mc ms : Nat) (free : Addr → Prop) : Prop :=
  ∃ (E : String) (ce : Cell) (L : List Loc), XC E st t ∧ t.heap[q]? = some ce ∧ ce.vm = .none ∧ st.vm.findClass E = some ce.cls ∧ st.WarmedH t.vm ∧ st.sameButNew ({ t with vm := st.vm } : State) L mc ms ∧ ∀ z ∈ L, free z.base
def vx_Q (Qc : Array Value → State → Outcome → State → Prop) (XC : String → State → State → Prop) (mc ms : Nat) (free : Addr → Prop) : Array Value → State → Outcome → State → Prop := fun a st o t =>
  (Qc a st o t ∧ ∃ L, FrameEnd st o t L mc ms ∧ ∀ q ∈ L, free q.base) ∨ ∃ q, o = .threw q ∧ vx_T XC st q t mc ms free
/-- a callee that returns or throws -/
def vx_Met (l : Launch) (y : MethodName) (ws : List Cond) (rm : Room) (Pc : Array Value → State → Prop) (Qc : Array Value → State → Outcome → State → Prop) (XC : String → State → State → Prop) (mc ms : Nat) (free : Addr → Prop) : Prop :=
  MetFree l y (headSpec ws rm) Pc (fun _ _ _ _ _ => True) (vx_Q Qc XC mc ms free)
def vx_Post (XC : String → State → State → Prop) (mc ms : Nat) (free : Addr → Prop) : Pt → Array Value → Addr → Pt → Prop := fun A a q B =>
  ∃ (g : JFrame) (mk : MethodId) (t : State) (L : List Loc) (E : String) (ce : Cell), B.U.heap = t.heap ∧ B.U.vm = t.vm ∧ XC E (A.U.calling g mk a) t ∧ t.heap[q]? = some ce ∧ ce.vm = .none ∧ A.U.vm.findClass E = some ce.cls ∧ B.locs = A.locs ++ L ∧ (∀ z ∈ L, free z.base) ∧ B.cells = A.cells + mc ∧ B.slots = A.slots + ms
def vx_Back (l : Launch) (R : Room) (p : Program) (e : Env) (below : List Frame) (s : State) (sargs : Array Value) (y : MethodName) (len W9 : Nat)
    (Pre : Pt → Array Value → Prop) (Post : Pt → Array Value → Option Value → Pt → Prop) (PostX : Pt → Array Value → Addr → Pt → Prop) : Prop :=
  ∀ (m : MethodId) (meth : Method) (c : Code) (A : Pt) (g : JFrame) (ig : Instr) (mk : MethodId) (a : Array Value),
    Stand p l e R s m sargs below meth c A.U A.locs A.cells A.slots → g.method = m → g.locals.size = c.maxLocals → decode c.code g.pc = .ok (ig, len) →
    2 * g.monitorRoom + (g.stack.map fun v => v.category).sum ≤ W9 → A.U.methodNamed? y = some mk → Pre A a →
    (∃ (v : Option Value) (B : Pt), Stand p l e R s m sargs below meth c B.U B.locs B.cells B.slots ∧ Post A a v B ∧
      Steps p.tables e below (doInvoke e (A.U.setTop g) [] mk a).1 (B.U.setTop { g with pc := g.pc + len, stack := v.toList ++ g.stack })) ∨
    (∃ (q : Addr) (B : Pt), Stand p l e R s m sargs below meth c B.U B.locs B.cells B.slots ∧ PostX A a q B ∧
      Steps p.tables e below (doInvoke e (A.U.setTop g) [] mk a).1 ((B.U.setTop g).pushFrame (.throwing q)))
section Payer
variable {l : Launch} {R : Room} {p : Program} {e : Env} {below : List Frame} {s : State} {sargs : Array Value} {y : MethodName} {len W9 : Nat}
theorem vx_back {ws : List Cond} {rm : Room} {Pc : Array Value → State → Prop} {Qc : Array Value → State → Outcome → State → Prop} {XC : String → State → State → Prop} {mc ms : Nat} {free : Addr → Prop} {bytes : ByteArray} {maxL : Nat} {ret : Option FieldType}
    (hM : vx_Met l y ws rm Pc Qc XC mc ms free) (hblind : FrameBlind Pc) (hrc : rm.cells = mc) (hrs : rm.slots = ms)
    (hframes : rm.frames + 1 ≤ R.frames) (hlocals : W9 + (maxL + 11) + rm.locals ≤ R.locals)
    (hws : ∀ w ∈ ws, ∀ a' U, s.WarmedH U.vm → w.before a' U = true) (hcode : Cond.code y bytes maxL ret ∈ ws) (hinit : ∀ a' U, s.WarmedH U.vm → (Cond.initialized y.cls).before a' U = true) :
    vx_Back l R p e below s sargs y len W9 (PreOf R mc ms Pc) (PostOf Qc mc ms free) (vx_Post XC mc ms free) := by
  intro m meth c A g ig mk a X hg hsize hdg hW hn hp
  have h1 : (headSpec ws rm).pre.before a A.U = true := atoms_intro fun w hw => hws w hw _ _ X.warmed
  have h2 : (Cond.code y bytes maxL ret).before a A.U = true := hws _ hcode _ _ X.warmed
  have h3 : (Cond.initialized y.cls).before a A.U = true := hinit _ _ X.warmed
  have h4 : A.cells + (headSpec ws rm).room.cells ≤ R.cells := by rw [show (headSpec ws rm).room.cells = mc from hrc]; exact hp.1
  have h5 : A.slots + (headSpec ws rm).room.slots ≤ R.slots := by rw [show (headSpec ws rm).room.slots = ms from hrs]; exact hp.2.1
  have hPc : Pc a (A.U.calling g mk a) := hblind _ _ _ _ hp.2.2
  obtain ⟨U, Ls, c0, s0⟩ := A
  dsimp only [Pt.U, Pt.locs, Pt.cells, Pt.slots] at h1 h2 h3 h4 h5 X hn hPc ⊢
  obtain ⟨methY, cY, hmY, hcY, -, hlY, -, -, -, -⟩ := Cond.code_spec hn h2
  obtain ⟨kY, hkY, -⟩ := className_of_methodNamed hn
  have hinitY : kY.init = .initialized := Cond.initialized_spec (findClass_of_methodNamed hn) hkY h3
  have h : At U g.method c below := by rw [hg]; exact X.here
  have hlocals9 : W9 + (maxL + 11) + (headSpec ws rm).room.locals ≤ R.locals := hlocals
  have happ : (headSpec ws rm).appliesLoose y e.platform (U.calling g mk a) = true :=
    Spec.appliesLoose_calling (g := g) h hdg hn hkY hinitY
      (X.room_calling (g := g) (R' := (headSpec ws rm).room) hsize hmY hcY hframes (by rw [hlY]; omega) h4 h5) h1
  obtain ⟨mid, hmid⟩ := h.above
  have hfr : (U.setTop g).frames = (.java g :: mid) ++ below := by rw [State.frames_setTop' g h.top, hmid]; rfl
  obtain ⟨o, s₂, hsteps, -, hend, hq⟩ := Steps.callFree hM p X.admits X.cas X.clock (acts := []) hfr happ hPc trivial
  have hq' : vx_Q Qc XC mc ms free a (U.calling g mk a) o s₂ := hq
  rw [State.frames_setTop' g h.top] at hend
  obtain ⟨g₀, hg0⟩ := Option.isSome_iff_exists.mp h.top
  obtain ⟨r, hr⟩ := State.topJava?_eq_some.mp hg0
  have hr' : (({ U with heap := s₂.heap, slotsUsed := s₂.slotsUsed } : State).setVm s₂.vm).frames = .java g₀ :: r := hr
  rcases hq' with ⟨hqc, L, hfe, hL⟩ | ⟨q, rfl, E, ce, L, hx, hce, hcv, hcl, hW₂, hsm, hL⟩
  · obtain ⟨⟨v, rfl⟩, hW₂, e2, q2, q3, q4, q5, q6⟩ := id hfe
    have e3 : s₂ = ({ (U.calling g mk a).setFrames s₂.frames with heap := s₂.heap, slotsUsed := s₂.slotsUsed } : State).setVm s₂.vm := by
      have : s₂ = ({ s₂ with vm := (U.calling g mk a).vm } : State).setVm s₂.vm := rfl
      rw [e2] at this
      exact this
    obtain ⟨c₂, i₂, len₂, hc₂, hd₂, hf₂⟩ := hend
    have hW' : U.WarmedH s₂.vm := hW₂
    have hcc : c₂ = c := by
      have h1 : s₂.code? g.method = U.code? g.method := by
        rw [State.code?_eq, State.code?_eq, hW'.alike.method?]
      exact Option.some.inj (hc₂.symm.trans (h1.trans h.code))
    subst hcc
    have hlen : len₂ = len := by rw [hdg] at hd₂; cases hd₂; rfl
    subst hlen
    have hs₂ : s₂ = (({ U with heap := s₂.heap, slotsUsed := s₂.slotsUsed } : State).setVm s₂.vm).setTop { g with pc := g.pc + len₂, stack := v.toList ++ g.stack } := by
      refine e3.trans ?_
      rw [hf₂, State.calling_eq h.top, State.setFrames_setFrames, State.setTop_of_frames _ hr', hr]
      rfl
    have hsame : U.sameButNew ({ U with heap := s₂.heap, slotsUsed := s₂.slotsUsed } : State) L mc ms := by
      refine ⟨?_, q2, q3, q4, q5, q6⟩
      obtain ⟨t, ht, -⟩ := State.frames_cons hr
      show ({ U with heap := s₂.heap, slotsUsed := s₂.slotsUsed } : State) = { U.setFrames U.frames with heap := s₂.heap, slotsUsed := s₂.slotsUsed }
      rw [State.setFrames_self ht]
    subst hg
    refine Or.inl ⟨v, ⟨(({ U with heap := s₂.heap, slotsUsed := s₂.slotsUsed } : State).setVm s₂.vm), Ls ++ L, c0 + mc, s0 + ms⟩,
      ⟨X.admits, X.cas, X.clock, X.frames, X.room, X.hears, X.method, X.code, (X.here.setHeapUsed s₂.heap s₂.slotsUsed).setVm hW'.alike, X.tail, State.WarmedH.trans X.warmed hW', X.limits, X.bytes, X.same.trans (hsame.setVm s.vm)⟩,
      ⟨g, mk, s₂, L, rfl, rfl, hqc, rfl, hL, rfl, rfl⟩, ?_⟩
    show Steps p.tables e below _ ((({ U with heap := s₂.heap, slotsUsed := s₂.slotsUsed } : State).setVm s₂.vm).setTop { g with pc := g.pc + len₂, stack := v.toList ++ g.stack })
    rw [← hs₂]
    exact hsteps
  · obtain ⟨e2, q2, q3, q4, q5, q6⟩ := id hsm
    have e3 : s₂ = ({ (U.calling g mk a).setFrames s₂.frames with heap := s₂.heap, slotsUsed := s₂.slotsUsed } : State).setVm s₂.vm := by
      have : s₂ = ({ s₂ with vm := (U.calling g mk a).vm } : State).setVm s₂.vm := rfl
      rw [e2] at this
      exact this
    have hf₂ : s₂.frames = .throwing q :: .java g :: U.frames.tail := hend
    have hW' : U.WarmedH s₂.vm := hW₂
    have hs₂ : s₂ = ((({ U with heap := s₂.heap, slotsUsed := s₂.slotsUsed } : State).setVm s₂.vm).setTop g).pushFrame (.throwing q) := by
      refine e3.trans ?_
      rw [hf₂, State.calling_eq h.top, State.setFrames_setFrames, State.pushFrame, State.frames_setTop _ hr', State.setTop_of_frames _ hr', State.setFrames_setFrames, hr]
      rfl
    have hsame : U.sameButNew ({ U with heap := s₂.heap, slotsUsed := s₂.slotsUsed } : State) L mc ms := by
      refine ⟨?_, q2, q3, q4, q5, q6⟩
      obtain ⟨t, ht, -⟩ := State.frames_cons hr
      show ({ U with heap := s₂.heap, slotsUsed := s₂.slotsUsed } : State) = { U.setFrames U.frames with heap := s₂.heap, slotsUsed := s₂.slotsUsed }
      rw [State.setFrames_self ht]
    subst hg
    refine Or.inr ⟨q, ⟨(({ U with heap := s₂.heap, slotsUsed := s₂.slotsUsed } : State).setVm s₂.vm), Ls ++ L, c0 + mc, s0 + ms⟩,
      ⟨X.admits, X.cas, X.clock, X.frames, X.room, X.hears, X.method, X.code, (X.here.setHeapUsed s₂.heap s₂.slotsUsed).setVm hW'.alike, X.tail, State.WarmedH.trans X.warmed hW', X.limits, X.bytes, X.same.trans (hsame.setVm s.vm)⟩,
      ⟨g, mk, s₂, L, E, ce, rfl, rfl, hx, hce, hcv, hcl, rfl, hL, rfl, rfl⟩, ?_⟩
    show Steps p.tables e below _ (((({ U with heap := s₂.heap, slotsUsed := s₂.slotsUsed } : State).setVm s₂.vm).setTop g).pushFrame (.throwing q))
    rw [← hs₂]
    exact hsteps
end Payer
section Calls
variable {p : Program} {l : Launch} {e : Env} {R : Room} {s : State} {m : MethodId} {args : Array Value} {below : List Frame} {meth : Method} {c : Code} {T : State} {locs : List Loc} {cells slots : Nat}
theorem vx_callV (X : Stand p l e R s m args below meth c T locs cells slots) (hexec : p.tables.exec = Jvm.exec) {own C : String} {index : Nat} {y : MethodName} {bytes : ByteArray} {maxL : Nat} {ret : Option FieldType}
    (hown : s.vm.findClass own = some m.cls) (hlink : (Cond.methodLink own index y).before args s = true) (hinst : (Cond.instanceMethod y).before args s = true) (hsel : (Cond.selects C y y).before args s = true)
    (hcode : (Cond.code y bytes maxL ret).before args s = true) (hy : y.cls ≠ "java/lang/invoke/MethodHandle" ∧ y.cls ≠ "java/lang/invoke/VarHandle")
    {W9 : Nat} {Pre : Pt → Array Value → Prop} {Post : Pt → Array Value → Option Value → Pt → Prop} {PostX : Pt → Array Value → Addr → Pt → Prop} (hK : vx_Back l R p e below s args y 3 W9 Pre Post PostX)
    {b : Addr} {cellB : Cell} (hcell : T.heap[b]? = some cellB) (hobj : cellB.vm.isStatics = false) (hcls : s.vm.findClass C = some cellB.cls)
    {g : JFrame} (hg : g.method = m) (hsize : g.locals.size = c.maxLocals) {argsL rest : List Value} (hlen : ∀ sig, parseMethodDescriptor y.desc = some sig → argsL.length = sig.parameters.length)
    (hstack : g.stack = argsL.reverse ++ .ref b :: rest) (hW : 2 * g.monitorRoom + (rest.map fun v => v.category).sum ≤ W9) (hdg : decode c.code g.pc = .ok (.invokevirtual index, 3))
    (hpre : ∀ vm₁, s.WarmedH vm₁ → Pre ⟨T.setVm vm₁, locs, cells, slots⟩ (Value.ref b :: argsL).toArray) :
    (∃ (v : Option Value) (vm₁ : Vm) (B : Pt), s.WarmedH vm₁ ∧ Stand p l e R s m args below meth c B.U B.locs B.cells B.slots ∧ Post ⟨T.setVm vm₁, locs, cells, slots⟩ (Value.ref b :: argsL).toArray v B ∧
      ∀ target, Steps p.tables e below (B.U.setTop { g with pc := g.pc + 3, stack := v.toList ++ rest }) target → Steps p.tables e below (T.setTop g) target) ∨
    (∃ (q : Addr) (vm₁ : Vm) (B : Pt), s.WarmedH vm₁ ∧ Stand p l e R s m args below meth c B.U B.locs B.cells B.slots ∧ PostX ⟨T.setVm vm₁, locs, cells, slots⟩ (Value.ref b :: argsL).toArray q B ∧
      Steps p.tables e below (T.setTop g) ((B.U.setTop { g with stack := rest }).pushFrame (.throwing q))) := by
  obtain ⟨mk, methM, hnamed, hmethM, hstM, habM⟩ := Cond.instanceMethod_spec hinst
  obtain ⟨methM', cM, hmethM', -, -, -, -, -, -, hsigM⟩ := Cond.code_spec hnamed hcode
  cases hmethM.symm.trans hmethM'
  obtain ⟨c2, r2, m2, q1, q2, q3, q4, kP, hkP, hkPi⟩ := Cond.selects_spec hsel
  cases hcls.symm.trans q1
  cases (State.methodFound?_of_named hnamed hy).symm.trans q2
  cases hnamed.symm.trans q3
  have hselP : selectMethod e.platform s.vm cellB.cls mk = .method mk := by rw [Launch.admits_selectMethod X.admits]; exact q4
  obtain ⟨vm₁, X₁, hstep₁⟩ := X.invokevirtual hexec hown hlink hnamed hmethM hstM hkP hkPi hy (a := b) (cell := cellB) hcell
    (fun z h => by rw [h] at hobj; cases hobj) hselP hmethM habM hkP hkPi (g := g) hg (argsL := argsL) (rest := rest) (hlen _ hsigM) hstack hdg
  rcases hK m meth c ⟨T.setVm vm₁, locs, cells, slots⟩ { g with stack := rest } (.invokevirtual index) mk (Value.ref b :: argsL).toArray X₁ hg hsize hdg hW (X₁.named hnamed) (hpre vm₁ X₁.warmed) with ⟨v, B, X', hpost, hsteps⟩ | ⟨q, B, X', hpost, hsteps⟩
  · exact Or.inl ⟨v, vm₁, B, X₁.warmed, X', hpost, fun target h => hstep₁ _ fun acts => by rw [doInvoke_state]; exact hsteps.trans h⟩
  · exact Or.inr ⟨q, vm₁, B, X₁.warmed, X', hpost, hstep₁ _ fun acts => by rw [doInvoke_state]; exact hsteps⟩
theorem vx_callS (X : Stand p l e R s m args below meth c T locs cells slots) (hexec : p.tables.exec = Jvm.exec) {own : String} {index : Nat} {y : MethodName} {bytes : ByteArray} {maxL : Nat} {ret : Option FieldType}
    (hown : s.vm.findClass own = some m.cls) (hlink : (Cond.methodLink own index y).before args s = true) (hstat : (Cond.static y).before args s = true) (hinit : (Cond.initialized y.cls).before args s = true)
    (hcode : (Cond.code y bytes maxL ret).before args s = true) (hy : y.cls ≠ "java/lang/invoke/MethodHandle" ∧ y.cls ≠ "java/lang/invoke/VarHandle")
    {W9 : Nat} {Pre : Pt → Array Value → Prop} {Post : Pt → Array Value → Option Value → Pt → Prop} {PostX : Pt → Array Value → Addr → Pt → Prop} (hK : vx_Back l R p e below s args y 3 W9 Pre Post PostX)
    {g : JFrame} (hg : g.method = m) (hsize : g.locals.size = c.maxLocals) {argsL rest : List Value} (hlen : ∀ sig, parseMethodDescriptor y.desc = some sig → argsL.length = sig.parameters.length)
    (hstack : g.stack = argsL.reverse ++ rest) (hW : 2 * g.monitorRoom + (rest.map fun v => v.category).sum ≤ W9) (hdg : decode c.code g.pc = .ok (.invokestatic index, 3))
    (hpre : ∀ vm₁, s.WarmedH vm₁ → Pre ⟨T.setVm vm₁, locs, cells, slots⟩ argsL.toArray) :
    (∃ (v : Option Value) (vm₁ : Vm) (B : Pt), s.WarmedH vm₁ ∧ Stand p l e R s m args below meth c B.U B.locs B.cells B.slots ∧ Post ⟨T.setVm vm₁, locs, cells, slots⟩ argsL.toArray v B ∧
      ∀ target, Steps p.tables e below (B.U.setTop { g with pc := g.pc + 3, stack := v.toList ++ rest }) target → Steps p.tables e below (T.setTop g) target) ∨
    (∃ (q : Addr) (vm₁ : Vm) (B : Pt), s.WarmedH vm₁ ∧ Stand p l e R s m args below meth c B.U B.locs B.cells B.slots ∧ PostX ⟨T.setVm vm₁, locs, cells, slots⟩ argsL.toArray q B ∧
      Steps p.tables e below (T.setTop g) ((B.U.setTop { g with stack := rest }).pushFrame (.throwing q))) := by
  obtain ⟨mk, hnamed⟩ := Cond.code_named hcode
  obtain ⟨methM, cM, hmethM, -, -, -, -, -, -, hsigM⟩ := Cond.code_spec hnamed hcode
  have hstatic : methM.isStatic = true := Cond.static_spec hnamed hmethM hstat
  obtain ⟨kP, hkP, -⟩ := className_of_methodNamed hnamed
  have hinitP : kP.init = .initialized := Cond.initialized_spec (findClass_of_methodNamed hnamed) hkP hinit
  obtain ⟨vm₁, X₁, hstep₁⟩ := X.invokestatic hexec hown hlink hnamed hmethM hstatic hkP hinitP hy (g := g) hg (argsL := argsL) (rest := rest) (hlen _ hsigM) hstack hdg
  rcases hK m meth c ⟨T.setVm vm₁, locs, cells, slots⟩ { g with stack := rest } (.invokestatic index) mk argsL.toArray X₁ hg hsize hdg hW (X₁.named hnamed) (hpre vm₁ X₁.warmed) with ⟨v, B, X', hpost, hsteps⟩ | ⟨q, B, X', hpost, hsteps⟩
  · exact Or.inl ⟨v, vm₁, B, X₁.warmed, X', hpost, fun target h => hstep₁ _ fun acts => by rw [doInvoke_state]; exact hsteps.trans h⟩
  · exact Or.inr ⟨q, vm₁, B, X₁.warmed, X', hpost, hstep₁ _ fun acts => by rw [doInvoke_state]; exact hsteps⟩
end Calls
theorem vx_cls {s : State} {T : State} {vm₁ : Vm} {E : String} {k : ClassId} (hW : s.WarmedH vm₁) (h : (T.setVm vm₁).vm.findClass E = some k) : s.vm.findClass E = some k := by
  have h1 : vm₁.findClass E = some k := h
  rw [hW.alike.findClass] at h1
  exact h1
/-- the method's frame g, with q thrown over it -/
def vx_W (p : Program) (l : Launch) (e : Env) (R : Room) (s : State) (m : MethodId) (args : Array Value) (below : List Frame) (meth : Method) (c : Code) (H : Heap) (locs : List Loc) (cells slots : Nat) (Q : State → Prop) (g : JFrame) (q : Addr) : Prop :=
  ∀ T : State, T.heap = H → Stand p l e R s m args below meth c T locs cells slots → ∃ t, Steps p.tables e below ((T.setTop g).pushFrame (.throwing q)) t ∧ Q t
def vx_Run (p : Program) (l : Launch) (e : Env) (R : Room) (s : State) (m : MethodId) (args : Array Value) (below : List Frame) (meth : Method) (c : Code) (H : Heap) (locs : List Loc) (cells slots mc ms : Nat) (g : JFrame) (rest : List Value) (Qa : State → Outcome → State → Prop) (XC : String → State → State → Prop) (free : Addr → Prop) : Prop :=
  ∀ T : State, T.heap = H → Stand p l e R s m args below meth c T locs cells slots →
    (∃ (v : Option Value) (st₀ t T' : State) (L : List Loc), st₀.heap = H ∧ Stand p l e R s m args below meth c T' (locs ++ L) (cells + mc) (slots + ms) ∧ (∀ q ∈ L, free q.base) ∧ T'.heap = t.heap ∧ T'.vm = t.vm ∧ Qa st₀ (.returned v) t ∧
      Goes p e below T g T' { g with pc := g.pc + 3, stack := v.toList ++ rest }) ∨
    (∃ (q : Addr) (st₀ t T' : State) (L : List Loc) (E : String) (ce : Cell), st₀.heap = H ∧ Stand p l e R s m args below meth c T' (locs ++ L) (cells + mc) (slots + ms) ∧ (∀ z ∈ L, free z.base) ∧ T'.heap = t.heap ∧ T'.vm = t.vm ∧ XC E st₀ t ∧ t.heap[q]? = some ce ∧ ce.vm = .none ∧ s.vm.findClass E = some ce.cls ∧
      Steps p.tables e below (T.setTop g) ((T'.setTop { g with stack := rest }).pushFrame (.throwing q)))
def vx_X {S : Type} (px : S → Prop) (B : String → S → State → Prop) (A : Nat → Prop) : String → State → State → Prop := fun E st t => ∃ u : S, px u ∧ B E u t ∧ va_F A st t
section Runs
variable {p : Program} {l : Launch} {e : Env} {R : Room} {s : State} {m : MethodId} {args : Array Value} {below : List Frame} {meth : Method} {c : Code} {H : Heap} {locs : List Loc} {cells slots : Nat}
variable {y : MethodName} {bytes cc : ByteArray} {maxL nL mc ms n index : Nat} {ret : Option FieldType} {ws : List Cond} {rm : Room} {Pc : Array Value → State → Prop} {Qc : Array Value → State → Outcome → State → Prop} {XC : String → State → State → Prop} {free : Addr → Prop} {Ts : List Cond} {own C : String} {b : Addr} {As rest : List Value} {g : JFrame}
theorem vx_callBack (cb : CallB R s args own index y bytes maxL ret ws rm mc ms n) (hM : vx_Met l y ws rm Pc Qc XC mc ms free) (hbl : FrameBlind Pc) : vx_Back l R p e below s args y 3 8 (PreOf R mc ms Pc) (PostOf Qc mc ms free) (vx_Post XC mc ms free) := by
  obtain ⟨hrc, hrs, hfr, hlo, hws, hcw, -, hini, -⟩ := cb
  exact vx_back (bytes := bytes) (maxL := maxL) (ret := ret) hM hbl hrc hrs hfr hlo hws hcw (fun a' U hW => word_at hW (Or.inl (by first | rfl | simp [Cond.onTables, Cond.keeps, Cond.steady])) hini)
theorem vx_runV (S : CallFix p m c cc nL s args Ts own) (hM : vx_Met l y ws rm Pc Qc XC mc ms free) (cw : CallW R s args own C index y bytes maxL ret ws rm mc ms n) (hp : PreV s H C b Pc As)
    (hg : g.method = m) (hn : As.length = n) (hsize : g.locals.size = nL) (hstack : g.stack = As.reverse ++ .ref b :: rest) (hW : 2 * g.monitorRoom + (rest.map fun v => v.category).sum ≤ 8) (hdg : decode cc g.pc = .ok (.invokevirtual index, 3)) (hf : cells + mc ≤ R.cells ∧ slots + ms ≤ R.slots) :
    vx_Run p l e R s m args below meth c H locs cells slots mc ms g rest (Qc (Value.ref b :: As).toArray) XC free := by
  have hK : vx_Back l R p e below s args y 3 8 (PreOf R mc ms Pc) (PostOf Qc mc ms free) (vx_Post XC mc ms free) := vx_callBack cw.1 hM hp.1
  obtain ⟨⟨-, -, -, -, -, -, hcode, -, hy, hlen, hl⟩, hin, hse⟩ := cw
  obtain ⟨hx, hb, hml, ho, -⟩ := S
  obtain ⟨-, ⟨cellB, hcB, hoB, hclB⟩, hPc⟩ := hp
  intro T hT X
  rcases vx_callV X hx (C := C) (bytes := bytes) (maxL := maxL) (ret := ret) ho hl hin hse hcode hy hK (by rw [hT]; exact hcB) hoB hclB hg (hsize.trans hml.symm) (argsL := As) (rest := rest) (fun sig h => hn.trans (hlen sig h)) hstack hW (by rw [hb]; exact hdg)
    (fun vm₁ hW₁ => ⟨hf.1, hf.2, hPc (T.setVm vm₁) hT hW₁⟩) with ⟨v, vm₁, ⟨U', l2, c2, s2⟩, hW₁, X', ⟨g', mk, t, L, e1, e2, hq, h1, hL, h2, h3⟩, st⟩ | ⟨q, vm₁, ⟨U', l2, c2, s2⟩, hW₁, X', ⟨g', mk, t, L, E, ce, e1, e2, hq, hce, hcv, hcl, h1, hL, h2, h3⟩, st⟩
  · dsimp only [Pt.U, Pt.locs, Pt.cells, Pt.slots] at X' e1 e2 h1 h2 h3 st
    subst h1; subst h2; subst h3
    exact Or.inl ⟨v, (T.setVm vm₁).calling g' mk (Value.ref b :: As).toArray, t, U', L, hT, X', hL, e1, e2, hq, st⟩
  · dsimp only [Pt.U, Pt.locs, Pt.cells, Pt.slots] at X' e1 e2 h1 h2 h3 st hcl
    subst h1; subst h2; subst h3
    exact Or.inr ⟨q, (T.setVm vm₁).calling g' mk (Value.ref b :: As).toArray, t, U', L, E, ce, hT, X', hL, e1, e2, hq, hce, hcv, vx_cls hW₁ hcl, st⟩
theorem vx_runS (S : CallFix p m c cc nL s args Ts own) (hM : vx_Met l y ws rm Pc Qc XC mc ms free) (cw : CallB R s args own index y bytes maxL ret ws rm mc ms n ∧ (Cond.static y).before args s = true) (hp : PreS s H Pc As)
    (hg : g.method = m) (hn : As.length = n) (hsize : g.locals.size = nL) (hstack : g.stack = As.reverse ++ rest) (hW : 2 * g.monitorRoom + (rest.map fun v => v.category).sum ≤ 8) (hdg : decode cc g.pc = .ok (.invokestatic index, 3)) (hf : cells + mc ≤ R.cells ∧ slots + ms ≤ R.slots) :
    vx_Run p l e R s m args below meth c H locs cells slots mc ms g rest (Qc As.toArray) XC free := by
  have hK : vx_Back l R p e below s args y 3 8 (PreOf R mc ms Pc) (PostOf Qc mc ms free) (vx_Post XC mc ms free) := vx_callBack cw.1 hM hp.1
  obtain ⟨⟨-, -, -, -, -, -, hcode, hini, hy, hlen, hl⟩, hstt⟩ := cw
  obtain ⟨hx, hb, hml, ho, -⟩ := S
  intro T hT X
  rcases vx_callS X hx (bytes := bytes) (maxL := maxL) (ret := ret) ho hl hstt hini hcode hy hK hg (hsize.trans hml.symm) (argsL := As) (rest := rest) (fun sig h => hn.trans (hlen sig h)) hstack hW (by rw [hb]; exact hdg)
    (fun vm₁ hW₁ => ⟨hf.1, hf.2, hp.2 (T.setVm vm₁) hT hW₁⟩) with ⟨v, vm₁, ⟨U', l2, c2, s2⟩, hW₁, X', ⟨g', mk, t, L, e1, e2, hq, h1, hL, h2, h3⟩, st⟩ | ⟨q, vm₁, ⟨U', l2, c2, s2⟩, hW₁, X', ⟨g', mk, t, L, E, ce, e1, e2, hq, hce, hcv, hcl, h1, hL, h2, h3⟩, st⟩
  · dsimp only [Pt.U, Pt.locs, Pt.cells, Pt.slots] at X' e1 e2 h1 h2 h3 st
    subst h1; subst h2; subst h3
    exact Or.inl ⟨v, (T.setVm vm₁).calling g' mk As.toArray, t, U', L, hT, X', hL, e1, e2, hq, st⟩
  · dsimp only [Pt.U, Pt.locs, Pt.cells, Pt.slots] at X' e1 e2 h1 h2 h3 st hcl
    subst h1; subst h2; subst h3
    exact Or.inr ⟨q, (T.setVm vm₁).calling g' mk As.toArray, t, U', L, E, ce, hT, X', hL, e1, e2, hq, hce, hcv, vx_cls hW₁ hcl, st⟩
end Runs
section Rows
variable {p : Program} {l : Launch} {e : Env} {R : Room} {s : State} {m : MethodId} {args : Array Value} {below : List Frame} {meth : Method} {c : Code} {H : Heap} {locs : List Loc} {cells slots : Nat} {Q : State → Prop}
variable {mc ms : Nat} {free : Addr → Prop} {A0 A1 : Nat → Prop} {H0 : Heap} {a : Array Value} {pc : Nat} {ls : Array Slot} {st0 rest : List Value}
theorem vx_keep {st₀ t T' : State} {L : List Loc} (h0 : st₀.heap = H) (e1 : T'.heap = t.heap) (hS : va_S A0 H0 H locs) (hA : ∀ q, q < H.size → A1 q → A0 q) (hf : ∀ q, free q → A0 q) (hL : ∀ q ∈ L, free q.base) (hF : va_F A1 st₀ t) :
    H.size ≤ T'.heap.size ∧ (∀ q : Nat, q < H.size → ¬ A1 q → T'.heap[q]? = H[q]?) ∧ va_S A0 H0 T'.heap (locs ++ L) := by
  obtain ⟨hz, hk⟩ := hF
  rw [h0] at hz hk
  exact ⟨by rw [e1]; exact hz, fun q h1 h2 => by rw [e1]; exact hk q h1 h2,
    ⟨Nat.le_trans hS.1 (by rw [e1]; exact hz), fun q h1 h2 => by rw [e1, hk q (Nat.lt_of_lt_of_le h1 hS.1) (fun z => h2 (hA q (Nat.lt_of_lt_of_le h1 hS.1) z))]; exact hS.2.1 q h1 h2, fun q hq => by
      rcases List.mem_append.mp hq with h | h
      · exact hS.2.2 q h
      · exact hf _ (hL q h)⟩⟩
theorem vx_calli {S SX : Type} {post : Int32 → S → Prop} {px : SX → Prop} {B : S → State → Prop} {BX : String → SX → State → Prop} {AX : Nat → Prop} (hr : vx_Run p l e R s m args below meth c H locs cells slots mc ms (F0 m pc ls st0) rest (va_Qi post B A1 a) (vx_X px BX AX) free) (hS : va_S A0 H0 H locs) (hA : ∀ q, q < H.size → A1 q → A0 q) (hf : ∀ q, free q → A0 q) (hAX : ∀ q, q < H.size → AX q → A0 q)
    (kx : ∀ (E : String) (ce : Cell) (q9 : Addr) (u : SX) (t : State) (H1 : Heap) (locs1 : List Loc), t.heap = H1 → s.vm.Alike t.vm → px u → BX E u t → H.size ≤ H1.size → (∀ q : Nat, q < H.size → ¬ AX q → H1[q]? = H[q]?) → va_S A0 H0 H1 locs1 → H1[q9]? = some ce → ce.vm = .none → s.vm.findClass E = some ce.cls → vx_W p l e R s m args below meth c H1 locs1 (cells + mc) (slots + ms) Q (F0 m pc ls rest) q9)
    (kk : ∀ (r : Int32) (u : S) (t : State) (H1 : Heap) (locs1 : List Loc), t.heap = H1 → s.vm.Alike t.vm → post r u → B u t → H.size ≤ H1.size → (∀ q : Nat, q < H.size → ¬ A1 q → H1[q]? = H[q]?) → va_S A0 H0 H1 locs1 → W p l e R s m args below meth c H1 locs1 (cells + mc) (slots + ms) Q (F0 m (pc + 3) ls (.int r :: rest))) : W p l e R s m args below meth c H locs cells slots Q (F0 m pc ls st0) := by
  intro T hT X
  rcases hr T hT X with ⟨v, st₀, t, T', L, h0, X', hL, e1, e2, ⟨⟨r, u, hv, hp, hb⟩, hF⟩, st⟩ | ⟨q, st₀, t, T', L, E, ce, h0, X', hL, e1, e2, ⟨u, hp, hb, hF⟩, hce, hcv, hcl, st⟩
  · cases hv
    obtain ⟨k1, k2, k3⟩ := vx_keep h0 e1 hS hA hf hL hF
    obtain ⟨t2, a1, b1⟩ := kk r u t T'.heap (locs ++ L) e1.symm (by rw [← e2]; exact X'.warmed.alike) hp hb k1 k2 k3 T' rfl X'
    exact ⟨t2, st t2 a1, b1⟩
  · obtain ⟨k1, k2, k3⟩ := vx_keep h0 e1 hS hAX hf hL hF
    obtain ⟨t2, a1, b1⟩ := kx E ce q u t T'.heap (locs ++ L) e1.symm (by rw [← e2]; exact X'.warmed.alike) hp hb k1 k2 k3 (by rw [e1]; exact hce) hcv hcl T' rfl X'
    exact ⟨t2, st.trans a1, b1⟩
theorem vx_calll {S SX : Type} {post : Int64 → S → Prop} {px : SX → Prop} {B : S → State → Prop} {BX : String → SX → State → Prop} {AX : Nat → Prop} (hr : vx_Run p l e R s m args below meth c H locs cells slots mc ms (F0 m pc ls st0) rest (va_Ql post B A1 a) (vx_X px BX AX) free) (hS : va_S A0 H0 H locs) (hA : ∀ q, q < H.size → A1 q → A0 q) (hf : ∀ q, free q → A0 q) (hAX : ∀ q, q < H.size → AX q → A0 q)
    (kx : ∀ (E : String) (ce : Cell) (q9 : Addr) (u : SX) (t : State) (H1 : Heap) (locs1 : List Loc), t.heap = H1 → s.vm.Alike t.vm → px u → BX E u t → H.size ≤ H1.size → (∀ q : Nat, q < H.size → ¬ AX q → H1[q]? = H[q]?) → va_S A0 H0 H1 locs1 → H1[q9]? = some ce → ce.vm = .none → s.vm.findClass E = some ce.cls → vx_W p l e R s m args below meth c H1 locs1 (cells + mc) (slots + ms) Q (F0 m pc ls rest) q9)
    (kk : ∀ (r : Int64) (u : S) (t : State) (H1 : Heap) (locs1 : List Loc), t.heap = H1 → s.vm.Alike t.vm → post r u → B u t → H.size ≤ H1.size → (∀ q : Nat, q < H.size → ¬ A1 q → H1[q]? = H[q]?) → va_S A0 H0 H1 locs1 → W p l e R s m args below meth c H1 locs1 (cells + mc) (slots + ms) Q (F0 m (pc + 3) ls (.long r :: rest))) : W p l e R s m args below meth c H locs cells slots Q (F0 m pc ls st0) := by
  intro T hT X
  rcases hr T hT X with ⟨v, st₀, t, T', L, h0, X', hL, e1, e2, ⟨⟨r, u, hv, hp, hb⟩, hF⟩, st⟩ | ⟨q, st₀, t, T', L, E, ce, h0, X', hL, e1, e2, ⟨u, hp, hb, hF⟩, hce, hcv, hcl, st⟩
  · cases hv
    obtain ⟨k1, k2, k3⟩ := vx_keep h0 e1 hS hA hf hL hF
    obtain ⟨t2, a1, b1⟩ := kk r u t T'.heap (locs ++ L) e1.symm (by rw [← e2]; exact X'.warmed.alike) hp hb k1 k2 k3 T' rfl X'
    exact ⟨t2, st t2 a1, b1⟩
  · obtain ⟨k1, k2, k3⟩ := vx_keep h0 e1 hS hAX hf hL hF
    obtain ⟨t2, a1, b1⟩ := kx E ce q u t T'.heap (locs ++ L) e1.symm (by rw [← e2]; exact X'.warmed.alike) hp hb k1 k2 k3 (by rw [e1]; exact hce) hcv hcl T' rfl X'
    exact ⟨t2, st.trans a1, b1⟩
theorem vx_callf {S SX : Type} {post : UInt32 → S → Prop} {px : SX → Prop} {B : S → State → Prop} {BX : String → SX → State → Prop} {AX : Nat → Prop} (hr : vx_Run p l e R s m args below meth c H locs cells slots mc ms (F0 m pc ls st0) rest (va_Qf post B A1 a) (vx_X px BX AX) free) (hS : va_S A0 H0 H locs) (hA : ∀ q, q < H.size → A1 q → A0 q) (hf : ∀ q, free q → A0 q) (hAX : ∀ q, q < H.size → AX q → A0 q)
    (kx : ∀ (E : String) (ce : Cell) (q9 : Addr) (u : SX) (t : State) (H1 : Heap) (locs1 : List Loc), t.heap = H1 → s.vm.Alike t.vm → px u → BX E u t → H.size ≤ H1.size → (∀ q : Nat, q < H.size → ¬ AX q → H1[q]? = H[q]?) → va_S A0 H0 H1 locs1 → H1[q9]? = some ce → ce.vm = .none → s.vm.findClass E = some ce.cls → vx_W p l e R s m args below meth c H1 locs1 (cells + mc) (slots + ms) Q (F0 m pc ls rest) q9)
    (kk : ∀ (r : UInt32) (u : S) (t : State) (H1 : Heap) (locs1 : List Loc), t.heap = H1 → s.vm.Alike t.vm → post r u → B u t → H.size ≤ H1.size → (∀ q : Nat, q < H.size → ¬ A1 q → H1[q]? = H[q]?) → va_S A0 H0 H1 locs1 → W p l e R s m args below meth c H1 locs1 (cells + mc) (slots + ms) Q (F0 m (pc + 3) ls (.float r :: rest))) : W p l e R s m args below meth c H locs cells slots Q (F0 m pc ls st0) := by
  intro T hT X
  rcases hr T hT X with ⟨v, st₀, t, T', L, h0, X', hL, e1, e2, ⟨⟨r, u, hv, hp, hb⟩, hF⟩, st⟩ | ⟨q, st₀, t, T', L, E, ce, h0, X', hL, e1, e2, ⟨u, hp, hb, hF⟩, hce, hcv, hcl, st⟩
  · cases hv
    obtain ⟨k1, k2, k3⟩ := vx_keep h0 e1 hS hA hf hL hF
    obtain ⟨t2, a1, b1⟩ := kk r u t T'.heap (locs ++ L) e1.symm (by rw [← e2]; exact X'.warmed.alike) hp hb k1 k2 k3 T' rfl X'
    exact ⟨t2, st t2 a1, b1⟩
  · obtain ⟨k1, k2, k3⟩ := vx_keep h0 e1 hS hAX hf hL hF
    obtain ⟨t2, a1, b1⟩ := kx E ce q u t T'.heap (locs ++ L) e1.symm (by rw [← e2]; exact X'.warmed.alike) hp hb k1 k2 k3 (by rw [e1]; exact hce) hcv hcl T' rfl X'
    exact ⟨t2, st.trans a1, b1⟩
theorem vx_calld {S SX : Type} {post : UInt64 → S → Prop} {px : SX → Prop} {B : S → State → Prop} {BX : String → SX → State → Prop} {AX : Nat → Prop} (hr : vx_Run p l e R s m args below meth c H locs cells slots mc ms (F0 m pc ls st0) rest (va_Qd post B A1 a) (vx_X px BX AX) free) (hS : va_S A0 H0 H locs) (hA : ∀ q, q < H.size → A1 q → A0 q) (hf : ∀ q, free q → A0 q) (hAX : ∀ q, q < H.size → AX q → A0 q)
    (kx : ∀ (E : String) (ce : Cell) (q9 : Addr) (u : SX) (t : State) (H1 : Heap) (locs1 : List Loc), t.heap = H1 → s.vm.Alike t.vm → px u → BX E u t → H.size ≤ H1.size → (∀ q : Nat, q < H.size → ¬ AX q → H1[q]? = H[q]?) → va_S A0 H0 H1 locs1 → H1[q9]? = some ce → ce.vm = .none → s.vm.findClass E = some ce.cls → vx_W p l e R s m args below meth c H1 locs1 (cells + mc) (slots + ms) Q (F0 m pc ls rest) q9)
    (kk : ∀ (r : UInt64) (u : S) (t : State) (H1 : Heap) (locs1 : List Loc), t.heap = H1 → s.vm.Alike t.vm → post r u → B u t → H.size ≤ H1.size → (∀ q : Nat, q < H.size → ¬ A1 q → H1[q]? = H[q]?) → va_S A0 H0 H1 locs1 → W p l e R s m args below meth c H1 locs1 (cells + mc) (slots + ms) Q (F0 m (pc + 3) ls (.double r :: rest))) : W p l e R s m args below meth c H locs cells slots Q (F0 m pc ls st0) := by
  intro T hT X
  rcases hr T hT X with ⟨v, st₀, t, T', L, h0, X', hL, e1, e2, ⟨⟨r, u, hv, hp, hb⟩, hF⟩, st⟩ | ⟨q, st₀, t, T', L, E, ce, h0, X', hL, e1, e2, ⟨u, hp, hb, hF⟩, hce, hcv, hcl, st⟩
  · cases hv
    obtain ⟨k1, k2, k3⟩ := vx_keep h0 e1 hS hA hf hL hF
    obtain ⟨t2, a1, b1⟩ := kk r u t T'.heap (locs ++ L) e1.symm (by rw [← e2]; exact X'.warmed.alike) hp hb k1 k2 k3 T' rfl X'
    exact ⟨t2, st t2 a1, b1⟩
  · obtain ⟨k1, k2, k3⟩ := vx_keep h0 e1 hS hAX hf hL hF
    obtain ⟨t2, a1, b1⟩ := kx E ce q u t T'.heap (locs ++ L) e1.symm (by rw [← e2]; exact X'.warmed.alike) hp hb k1 k2 k3 (by rw [e1]; exact hce) hcv hcl T' rfl X'
    exact ⟨t2, st.trans a1, b1⟩
theorem vx_callv {S SX : Type} {post : S → Prop} {px : SX → Prop} {B : S → State → Prop} {BX : String → SX → State → Prop} {AX : Nat → Prop} (hr : vx_Run p l e R s m args below meth c H locs cells slots mc ms (F0 m pc ls st0) rest (va_Qv post B A1 a) (vx_X px BX AX) free) (hS : va_S A0 H0 H locs) (hA : ∀ q, q < H.size → A1 q → A0 q) (hf : ∀ q, free q → A0 q) (hAX : ∀ q, q < H.size → AX q → A0 q)
    (kx : ∀ (E : String) (ce : Cell) (q9 : Addr) (u : SX) (t : State) (H1 : Heap) (locs1 : List Loc), t.heap = H1 → s.vm.Alike t.vm → px u → BX E u t → H.size ≤ H1.size → (∀ q : Nat, q < H.size → ¬ AX q → H1[q]? = H[q]?) → va_S A0 H0 H1 locs1 → H1[q9]? = some ce → ce.vm = .none → s.vm.findClass E = some ce.cls → vx_W p l e R s m args below meth c H1 locs1 (cells + mc) (slots + ms) Q (F0 m pc ls rest) q9)
    (kk : ∀ (u : S) (t : State) (H1 : Heap) (locs1 : List Loc), t.heap = H1 → s.vm.Alike t.vm → post u → B u t → H.size ≤ H1.size → (∀ q : Nat, q < H.size → ¬ A1 q → H1[q]? = H[q]?) → va_S A0 H0 H1 locs1 → W p l e R s m args below meth c H1 locs1 (cells + mc) (slots + ms) Q (F0 m (pc + 3) ls (rest))) : W p l e R s m args below meth c H locs cells slots Q (F0 m pc ls st0) := by
  intro T hT X
  rcases hr T hT X with ⟨v, st₀, t, T', L, h0, X', hL, e1, e2, ⟨⟨u, hv, hp, hb⟩, hF⟩, st⟩ | ⟨q, st₀, t, T', L, E, ce, h0, X', hL, e1, e2, ⟨u, hp, hb, hF⟩, hce, hcv, hcl, st⟩
  · cases hv
    obtain ⟨k1, k2, k3⟩ := vx_keep h0 e1 hS hA hf hL hF
    obtain ⟨t2, a1, b1⟩ := kk u t T'.heap (locs ++ L) e1.symm (by rw [← e2]; exact X'.warmed.alike) hp hb k1 k2 k3 T' rfl X'
    exact ⟨t2, st t2 a1, b1⟩
  · obtain ⟨k1, k2, k3⟩ := vx_keep h0 e1 hS hAX hf hL hF
    obtain ⟨t2, a1, b1⟩ := kx E ce q u t T'.heap (locs ++ L) e1.symm (by rw [← e2]; exact X'.warmed.alike) hp hb k1 k2 k3 (by rw [e1]; exact hce) hcv hcl T' rfl X'
    exact ⟨t2, st.trans a1, b1⟩
end Rows
section Ends
variable {p : Program} {l : Launch} {e : Env} {R : Room} {s : State} {m : MethodId} {args : Array Value} {below : List Frame} {meth : Method} {c : Code} {H : Heap} {locs : List Loc} {cells slots : Nat} {Q : State → Prop}
variable {mc ms : Nat} {free : Addr → Prop} {A0 A1 : Nat → Prop} {H0 : Heap} {a : Array Value} {ls : Array Slot} {st0 rest : List Value}
variable {Qc : Array Value → State → Outcome → State → Prop} {XC : String → State → State → Prop}
/-- what a body that may throw owes at its end -/
def vx_MQ (below : List Frame) (Qc : Array Value → State → Outcome → State → Prop) (XC : String → State → State → Prop) (a : Array Value) (s : State) (mc ms : Nat) (free : Addr → Prop) : State → Prop := fun t =>
  ∃ o, t.status = .running ∧ Ended t below o ∧ vx_Q Qc XC mc ms free a s o t
theorem vx_ret {g : JFrame} {mc ms : Nat} (k : W p l e R s m args below meth c H locs cells slots (MQ below Qc args s mc ms free) g) : W p l e R s m args below meth c H locs cells slots (vx_MQ below Qc XC args s mc ms free) g := by
  intro T hT X
  obtain ⟨t, a1, o, b1, b2, b3, b4⟩ := k T hT X
  exact ⟨t, a1, o, b1, b2, Or.inl ⟨b3, b4⟩⟩
/-- not caught here: it goes on to the caller -/
theorem vx_widen {g : JFrame} {q : Addr} {k n : Nat} (h1 : cells ≤ k) (h2 : slots ≤ n) (kk : vx_W p l e R s m args below meth c H locs k n Q g q) : vx_W p l e R s m args below meth c H locs cells slots Q g q := fun T hT X => kk T hT (stand_widen X h1 h2)
theorem vx_out {pc : Nat} {E : String} {ce : Cell} {q : Addr} {mc ms : Nat} (hout : ∀ x ∈ c.exceptionTable.toList, covers x pc = false) (hlocks : meth.locks = false) (hcell : H[q]? = some ce) (hv : ce.vm = .none) (hcl : s.vm.findClass E = some ce.cls)
    (hx : ∀ t : State, t.heap = H → s.vm.Alike t.vm → XC E s t) (hf : ∀ z ∈ locs, free z.base) (hc : cells ≤ mc) (hs : slots ≤ ms) :
    vx_W p l e R s m args below meth c H locs cells slots (vx_MQ below Qc XC args s mc ms free) (F0 m pc ls rest) q := by
  intro T hT X
  obtain ⟨st1, hrun, hend, hW, hsm⟩ := X.leaveThrown q (g := F0 m pc ls rest) rfl rfl rfl hout hlocks
  have hcell9 : (T.setFrames (.throwing q :: below)).heap[q]? = some ce := by
    show T.heap[q]? = some ce
    rw [hT]; exact hcell
  exact ⟨_, st1, .threw q, hrun, hend, Or.inr ⟨q, rfl, E, ce, locs, hx _ hT hW.alike, hcell9, hv, hcl, hW, hsm.mono hc hs, hf⟩⟩
theorem vx_frame {U : State} {k n : Nat} (h : s.sameButNew ({ U with vm := s.vm } : State) locs k n) : s.heap.size ≤ U.heap.size ∧ ∀ q : Nat, q < s.heap.size → (∀ z ∈ locs, z.base ≠ q) → U.heap[q]? = s.heap[q]? := by
  obtain ⟨-, h2, -, -, -, h6⟩ := h
  refine ⟨h2, fun q hq hz => ?_⟩
  obtain ⟨c9, e1, e2, e3, e4⟩ := h6 q _ (Array.getElem?_eq_getElem hq)
  have hs : c9.slots = (s.heap[q]).slots := Array.ext_getElem? fun i => e4 i fun hm => hz _ hm rfl
  have h9 : c9 = s.heap[q] := by
    rw [hs] at e2
    exact e2
  have e5 : U.heap[q]? = some c9 := e1
  rw [e5, h9, Array.getElem?_eq_getElem hq]
/-- the words of a throw but the four that speak of the heap -/
def vx_no (w : Cond) : Bool := decide (w ≠ .isRef (.static Bundle.tN "UNASSIGNED_STACK" Bundle.steD)) && decide (w ≠ .isRef (.static Bundle.tN "SUPPRESSED_SENTINEL" Bundle.listD)) && decide (w ≠ .laysStatic Bundle.tN "UNASSIGNED_STACK" Bundle.steD) && decide (w ≠ .laysStatic Bundle.tN "SUPPRESSED_SENTINEL" Bundle.listD)
def vx_at0 (own : String) (ic : Nat) (X : String) (names : List String) : List Cond := (Bundle.ownAtoms0 own ic X names).filter vx_no
def vx_atS (own : String) (ic : Nat) (X : String) (names : List String) : List Cond := (Bundle.ownAtoms own ic X names).filter vx_no
/-- a word that the tables alone decide, or a good one -/
def vx_ot (w : Cond) : Bool := w.onTables || goodWord w
theorem vx_ot_at {args a' : Array Value} {s U : State} {w : Cond} (hW : s.WarmedH U.vm) (hvm : s.vm = U.vm) (hg : vx_ot w = true) (h : w.before args s = true) : w.before a' U = true := by
  simp only [vx_ot, Bool.or_eq_true] at hg
  rcases hg with hg | hg
  · exact va_tabs hg hvm h
  · exact word_at hW (good_of_word hg) h
/-- a list's words: the good ones out of the method's own list, the others by premises of their own -/
theorem vx_hat {args : Array Value} {s : State} {L B : List Cond} (h1 : ∀ w ∈ L.filter goodWord, w.before args s = true) (h2 : ∀ w ∈ L.filter (fun w => !goodWord w), w ∈ B) (h3 : ∀ w ∈ B, w.before args s = true) : ∀ w ∈ L, w.before args s = true := by
  intro w hw
  by_cases g : goodWord w = true
  · exact h1 w (List.mem_filter.mpr ⟨hw, g⟩)
  · refine h3 w (h2 w (List.mem_filter.mpr ⟨hw, ?_⟩))
    show (!goodWord w) = true
    cases hgw : goodWord w
    · rfl
    · exact absurd hgw g
theorem vx_c {args : Array Value} {s : State} {w : Cond} {B : List Cond} (h : w.before args s = true) (t : ∀ w ∈ B, w.before args s = true) : ∀ w' ∈ w :: B, w'.before args s = true := fun w' h' => (List.mem_cons.mp h').elim (fun e => by rw [e]; exact h) (t w')
theorem vx_n {args : Array Value} {s : State} : ∀ w ∈ ([] : List Cond), w.before args s = true := fun _ h => nomatch h
theorem vx_own {args : Array Value} {s : State} {L : List Cond} (h1 : ∀ w ∈ L.filter vx_no, w.before args s = true)
    (hU : (Cond.isRef (.static Bundle.tN "UNASSIGNED_STACK" Bundle.steD)).before args s = true) (hN : (Cond.isRef (.static Bundle.tN "SUPPRESSED_SENTINEL" Bundle.listD)).before args s = true)
    (lU : (Cond.laysStatic Bundle.tN "UNASSIGNED_STACK" Bundle.steD).before args s = true) (lN : (Cond.laysStatic Bundle.tN "SUPPRESSED_SENTINEL" Bundle.listD).before args s = true) : ∀ w ∈ L, w.before args s = true := by
  intro w hw
  by_cases e1 : w = .isRef (.static Bundle.tN "UNASSIGNED_STACK" Bundle.steD)
  · rw [e1]; exact hU
  · by_cases e2 : w = .isRef (.static Bundle.tN "SUPPRESSED_SENTINEL" Bundle.listD)
    · rw [e2]; exact hN
    · by_cases e3 : w = .laysStatic Bundle.tN "UNASSIGNED_STACK" Bundle.steD
      · rw [e3]; exact lU
      · by_cases e4 : w = .laysStatic Bundle.tN "SUPPRESSED_SENTINEL" Bundle.listD
        · rw [e4]; exact lN
        · exact h1 w (List.mem_filter.mpr ⟨hw, by unfold vx_no; rw [decide_eq_true e1, decide_eq_true e2, decide_eq_true e3, decide_eq_true e4]; rfl⟩)
/-- where a static field lies, its class's statics cell in H -/
def vx_L (C n d : String) (A : Nat → Prop) (U : State) (H : Heap) : Prop := ∃ (c : ClassId) (k : Class) (i : Nat) (f : Field) (a : Nat) (cell : Cell), U.vm.findClass C = some c ∧ U.fieldFound? C n d = some (c, k, i, f) ∧ f.isStatic = true ∧ k.statics = some a ∧ H[a]? = some cell ∧ cell.vm.isStatics = true ∧ cell.cls = c ∧ f.slot < cell.slots.size ∧ k.staticTypes[f.slot]? = some f.type ∧ ¬ A a
theorem vx_L.moved {C n d : String} {A : Nat → Prop} {u U : State} {H : Heap} (hvm : u.vm.Alike U.vm) (h : vx_L C n d A u H) : vx_L C n d A U H := by
  obtain ⟨c, k, i, f, a, cell, h1, h2, h3, h4, h5, h6, h7, h8, h9, h10⟩ := h
  obtain ⟨k', hi', he⟩ := State.fieldFound?_setVm hvm h2
  exact ⟨c, k', i, f, a, cell, by rw [hvm.findClass]; exact h1, hi', h3, by rw [he]; exact h4, h5, h6, h7, h8, by rw [he]; exact h9, h10⟩
theorem vx_L.kept {C n d : String} {A : Nat → Prop} {U : State} {H H1 : Heap} (h : vx_L C n d A U H) (hq : ∀ a : Nat, a < H.size → ¬ A a → H1[a]? = H[a]?) : vx_L C n d A U H1 := by
  obtain ⟨c, k, i, f, a, cell, h1, h2, h3, h4, h5, h6, h7, h8, h9, h10⟩ := h
  exact ⟨c, k, i, f, a, cell, h1, h2, h3, h4, by rw [hq a (Array.getElem?_eq_some_iff.mp h5).1 h10]; exact h5, h6, h7, h8, h9, h10⟩
theorem vx_L.narrow {C n d : String} {A B : Nat → Prop} {U : State} {H : Heap} (h : vx_L C n d A U H) (hAB : ∀ q, B q → A q) : vx_L C n d B U H := by
  obtain ⟨c, k, i, f, a, cell, h1, h2, h3, h4, h5, h6, h7, h8, h9, h10⟩ := h
  exact ⟨c, k, i, f, a, cell, h1, h2, h3, h4, h5, h6, h7, h8, h9, fun z => h10 (hAB _ z)⟩
theorem vx_L.word {C n d : String} {A : Nat → Prop} {s : State} {args : Array Value} (h : vx_L C n d A s s.heap) : (Cond.laysStatic C n d).before args s = true := by
  obtain ⟨c, k, i, f, a, cell, h1, h2, h3, h4, h5, h6, h7, h8, h9, -⟩ := h
  show (Cond.laysStatic C n d).holds args s none s [] = true
  exact Cond.laysStatic_of h1 h2 h3 h4 h5 h6 h7 h8 h9
/-- .. and what it holds: null or some reference -/
def vx_Zq (C n d : String) (A : Nat → Prop) (U : State) (H : Heap) : Prop := va_Zq C n d A U H ∧ vx_L C n d A U H
theorem vx_Zq.moved {C n d : String} {A : Nat → Prop} {u U : State} {H : Heap} (hvm : u.vm.Alike U.vm) (h : vx_Zq C n d A u H) : vx_Zq C n d A U H := ⟨va_Zq.moved hvm h.1, vx_L.moved hvm h.2⟩
theorem vx_Zq.kept {C n d : String} {A : Nat → Prop} {U : State} {H H1 : Heap} (h : vx_Zq C n d A U H) (hq : ∀ a : Nat, a < H.size → ¬ A a → H1[a]? = H[a]?) : vx_Zq C n d A U H1 := ⟨va_Zq.kept h.1 hq, vx_L.kept h.2 hq⟩
theorem vx_Zq.narrow {C n d : String} {A B : Nat → Prop} {U : State} {H : Heap} (h : vx_Zq C n d A U H) (hAB : ∀ q, B q → A q) : vx_Zq C n d B U H := ⟨va_Zq.narrow h.1 hAB, vx_L.narrow h.2 hAB⟩
theorem vx_Zqof {args : Array Value} {s : State} {C n d : String} {A : Nat → Prop} (hl : (Cond.laysStatic C n d).before args s = true) (hini : (Cond.initialized C).before args s = true) (h : (Cond.isRef (.static C n d)).before args s = true) (hA : ∀ a : Nat, a < s.heap.size → ¬ A a) : vx_Zq C n d A s s.heap := by
  refine ⟨va_Zqof hl hini h hA, ?_⟩
  obtain ⟨c, k, i, f, a, cell, h1, h2, h3, h4, h5, h6, h7, h8, h9⟩ := Cond.laysStatic_spec hl
  exact ⟨c, k, i, f, a, cell, h1, h2, h3, h4, h5, h6, h7, h8, h9, hA a (Array.getElem?_eq_some_iff.mp h5).1⟩
theorem vx_isRef {C n d : String} {v : Value} {A : Nat → Prop} {s : State} {args : Array Value} (h : va_Z C n d v A s s.heap) (hv : v.isRef = true) : (Cond.isRef (.static C n d)).before args s = true := by
  obtain ⟨cf, kf, fi, f, a, cell, h1, h2, h3, h4, h5, h6, h7, -⟩ := h
  have he : (Term.static C n d).eval args s none [] s = some v := by
    simp [Term.eval, State.fieldNamed?, h1, h2, h4, h5, h6, h7]
  simp only [Cond.before, Cond.holds, Cond.value, he]
  cases v <;> simp_all [Value.isRef]
theorem vx_isRefq {C n d : String} {A : Nat → Prop} {s : State} {args : Array Value} (h : va_Zq C n d A s s.heap) : (Cond.isRef (.static C n d)).before args s = true := by
  rcases h with h | ⟨t, h⟩
  · exact vx_isRef h rfl
  · exact vx_isRef h rfl
/-- the same frame, seen from here: as if the method were called anew in this heap -/
theorem vx_rebase {T : State} (X : Stand p l e R s m args below meth c T locs cells slots) {R' : Room} (hf : R'.frames ≤ R.frames) (hl : R'.locals ≤ R.locals) (hc : cells + R'.cells ≤ R.cells) (hs : slots + R'.slots ≤ R.slots) :
    Stand p l e R' ((T.setVm s.vm).setFrames (.invoking m args :: below)) m args below meth c T [] 0 0 := by
  have htop : (T.setVm s.vm).topJava?.isSome := X.here.top
  have hF : ((T.setVm s.vm).setFrames (.invoking m args :: below)).frames = .invoking m args :: below := State.frames_setFrames _ (State.cur_lt_of_top htop)
  obtain ⟨g₀, hg0⟩ := Option.isSome_iff_exists.mp htop
  obtain ⟨r, hr⟩ := State.topJava?_eq_some.mp hg0
  have hl9 : e.platform.stackLimits (T.setVm s.vm).me = e.platform.stackLimits s.me := X.limits
  have hb9 : (T.setVm s.vm).me.stackBytes = s.me.stackBytes := X.bytes
  refine ⟨X.admits, X.cas, X.clock, hF, ?_, X.hears, X.method, X.code, X.here, X.tail, X.warmed, ?_, ?_, ?_⟩
  · have h := X.room
    have hU : ((T.setVm s.vm).setFrames (.invoking m args :: below)).localsInUse = s.localsInUse := by
      rw [State.localsInUse_invoking hF (meth := meth) (c := c) X.method X.code, State.localsInUse_invoking X.frames X.method X.code]
    simp only [State.hasRoom, Bool.and_eq_true, decide_eq_true_eq] at h ⊢
    obtain ⟨⟨⟨⟨h1, h2, h3, h4, h5, h6⟩, h7⟩, h8⟩, h9⟩ := h
    rw [X.frames, List.length_cons] at h2 h3
    have q1 := X.heapSize
    have q2 := X.used
    simp only [hF, hU, List.length_cons, State.stackLimits_setFrames, State.stackBytes_setFrames, hl9, hb9]
    refine ⟨⟨⟨⟨by omega, by omega, by omega, by omega, by omega, h6⟩, ?_⟩, ?_⟩, X.book⟩
    · show T.heap.size + R'.cells ≤ e.platform.maxCells
      omega
    · show T.slotsUsed + R'.slots ≤ e.platform.maxSlots
      omega
  · rw [State.stackLimits_setFrames]; rfl
  · rw [State.stackBytes_setFrames]; rfl
  · refine ⟨?_, Nat.le_refl _, Nat.le_refl _, ?_, ?_, fun a c9 h9 => ⟨c9, h9, rfl, rfl, fun _ _ => rfl⟩⟩
    · obtain ⟨t, ht, -⟩ := State.frames_cons hr
      show T.setVm s.vm = { ((T.setVm s.vm).setFrames (.invoking m args :: below)).setFrames (T.setVm s.vm).frames with heap := T.heap, slotsUsed := T.slotsUsed }
      rw [State.setFrames_setFrames, State.setFrames_self ht]
      rfl
    · show T.slotsUsed = T.slotsUsed + ((T.heap.toList.drop T.heap.size).map (·.slots.size)).sum
      rw [List.drop_eq_nil_of_le (Nat.le_of_eq Array.length_toList)]
      rfl
    · show ((T.heap.toList.drop T.heap.size).map (·.slots.size)).sum ≤ 0
      rw [List.drop_eq_nil_of_le (Nat.le_of_eq Array.length_toList)]
      exact Nat.le_refl _
/-- 'throw new E()': new; dup; invokespecial; athrow -/
theorem vx_throw0 {cc : ByteArray} {pc : Nat} (hexec : p.tables.exec = Jvm.exec) (hb : c.code = cc) (hl : l.stackTraces = false) {own cls : String} {names : List String} {ik ic mc ms : Nat} {A : Nat → Prop}
    (hown : s.vm.findClass own = some m.cls) (hcls : Bundle.fit cls = true) (hnames : ∀ n ∈ names, Bundle.fit n = true)
    (hk : (Cond.classLink own ik cls).before args s = true) (hini : (Cond.initialized cls).before args s = true) (hat : ∀ w ∈ vx_at0 own ic cls names, w.before args s = true)
    (hgood : ∀ w ∈ Cond.classLink own ik cls :: Cond.initialized cls :: vx_at0 own ic cls names, vx_ot w = true)
    (hU : vx_Zq Bundle.tN "UNASSIGNED_STACK" Bundle.steD A s s.heap) (hN : vx_Zq Bundle.tN "SUPPRESSED_SENTINEL" Bundle.listD A s s.heap) (hS : va_S A s.heap H locs) (hsize : ls.size = c.maxLocals)
    (d0 : decode cc pc = .ok (.new ik, 3)) (d3 : decode cc (pc + 3) = .ok (.dup, 1)) (d4 : decode cc (pc + 4) = .ok (.invokespecial ic, 3)) (d7 : decode cc (pc + 7) = .ok (.athrow, 1))
    (hout : ∀ x ∈ c.exceptionTable.toList, covers x (pc + 7) = false)
    (hRframes : names.length + 3 < R.frames) (hRlocals : (rest.map fun v => v.category).sum + (13 * (names.length + 1) + 42) ≤ R.locals) (hRcells : cells + 1 ≤ R.cells) (hRslots : slots + 6 ≤ R.slots) (hlocks : meth.locks = false)
    (hx : ∀ t : State, s.vm.Alike t.vm → H.size ≤ t.heap.size → (∀ q : Nat, q < H.size → t.heap[q]? = H[q]?) → XC cls s t)
    (hf : ∀ z ∈ locs, free z.base) (hc : cells + 1 ≤ mc) (hs : slots + 6 ≤ ms) :
    W p l e R s m args below meth c H locs cells slots (vx_MQ below Qc XC args s mc ms free) (F0 m pc ls rest) := by
  intro T hT X
  have htr : e.platform.stackTraces = false := (show e.platform.stackTraces = l.stackTraces by rw [X.admits.platform]).trans hl
  have Y := vx_rebase X (R' := { frames := R.frames, locals := R.locals, cells := 1, slots := 6 }) (Nat.le_refl _) (Nat.le_refl _) hRcells hRslots
  obtain ⟨s', hA⟩ : ∃ z, z = (T.setVm s.vm).setFrames (.invoking m args :: below) := ⟨_, rfl⟩
  rw [← hA] at Y
  have hvm : s'.vm = s.vm := by rw [hA]; rfl
  have hhp : s'.heap = H := by rw [hA]; exact hT
  have hW0 : s.WarmedH s'.vm := by rw [hvm]; exact State.WarmedH.refl s
  have hat' : ∀ w ∈ vx_at0 own ic cls names, w.before args s' = true := fun w hw => vx_ot_at hW0 hvm.symm (hgood w (List.mem_cons_of_mem _ (List.mem_cons_of_mem _ hw))) (hat w hw)
  have hk' : (Cond.classLink own ik cls).before args s' = true := vx_ot_at hW0 hvm.symm (hgood _ List.mem_cons_self) hk
  have hini' : (Cond.initialized cls).before args s' = true := vx_ot_at hW0 hvm.symm (hgood _ (List.mem_cons_of_mem _ List.mem_cons_self)) hini
  have hU' : vx_Zq Bundle.tN "UNASSIGNED_STACK" Bundle.steD A s' s'.heap := by rw [hhp]; exact vx_Zq.moved hW0.alike (hU.kept hS.2.1)
  have hN' : vx_Zq Bundle.tN "SUPPRESSED_SENTINEL" Bundle.listD A s' s'.heap := by rw [hhp]; exact vx_Zq.moved hW0.alike (hN.kept hS.2.1)
  have h : ∀ w ∈ Bundle.ownAtoms0 own ic cls names, w.before args s' = true := vx_own hat' (vx_isRefq hU'.1) (vx_isRefq hN'.1) hU'.2.word hN'.2.word
  have hown' : s'.vm.findClass own = some m.cls := by rw [hvm]; exact hown
  have hins : (Cond.instantiable cls 6).before args s' = true := h _ (by simp [Bundle.ownAtoms0])
  obtain ⟨vm₁, cX, kX, hfX, hkX, -, -, X₁, st1⟩ := Y.newCold hexec (own := own) (C := cls) (index := ik) (n := 6) hown' hk' hins hini'
    (g := F0 m pc ls rest) rfl (by rw [hb]; exact d0) (Nat.le_refl _) (Nat.le_refl _)
  generalize hT1 : (T.setVm vm₁).pushCell { cls := cX, slots := kX.instanceTypes.map defaultValue, vm := .none } = T1 at X₁ st1
  have hcat : (Value.ref T.heap.size).category = 1 := rfl
  have hcellA : T1.heap[T.heap.size]? = some (freshCell cX kX) := by rw [← hT1]; exact State.heap_pushCell_size _ _
  have d3' : decode c.code (pc + 3) = .ok (.dup, 1) := by rw [hb]; exact d3
  obtain ⟨U, hsteps, hrun, hend, hW, hsame, ce, hce, hO⟩ := X₁.ctorThrow0 hexec htr (own := own) (cls := cls) (names := names) (ic := ic) hown' hcls hnames h (fun x hx => nomatch hx) hfX hkX hcellA (by rw [hhp, hT]; exact Nat.le_refl _)
    (g := { method := m, pc := pc + 4, locals := ls, stack := .ref T.heap.size :: .ref T.heap.size :: rest, locked := none }) rfl hsize rfl rfl (rest := rest) rfl
    (by rw [hb]; exact d4) (by rw [hb]; exact d7) hout hRframes (by simp only [List.map_cons, List.sum_cons, hcat]; omega) hlocks
  obtain ⟨f1, f2⟩ := vx_frame hsame
  rw [hhp] at f1 f2
  have hWs : s.WarmedH U.vm := State.WarmedH.trans hW0 hW
  have hcl : s.vm.findClass cls = some ce.cls := by
    have h9 := hO.cls
    rw [hvm] at h9
    exact h9
  have hall : s.sameButNew ({ U with vm := s.vm } : State) locs mc ms := by
    subst hA
    obtain ⟨e1, e2⟩ := hsame
    rw [State.setFrames_setFrames] at e1
    have h2 : (T.setVm s.vm).sameButNew ({ U with vm := s.vm } : State) [] (0 + 1) (0 + 6) := ⟨e1, e2⟩
    have h3 := X.same.trans h2
    rw [List.append_nil] at h3
    exact h3.mono hc hs
  refine ⟨U, ?_, .threw T.heap.size, hrun, hend, Or.inr ⟨T.heap.size, rfl, cls, ce, locs, hx U hWs.alike f1 (fun q hq => f2 q hq (fun z hz => nomatch hz)), hce, hO.vm, hcl, hWs, hall, hf⟩⟩
  refine st1 _ ?_
  show Steps p.tables e below (T1.setTop { method := m, pc := pc + 3, locals := ls, stack := .ref T.heap.size :: rest, locked := none }) _
  jvm_step X₁.here [X₁.here.top, hexec, d3', Value.category]
  exact hsteps
/-- 'throw new E("text")': new; dup; ldc; invokespecial; athrow -/
theorem vx_throwS {cc : ByteArray} {pc : Nat} (hexec : p.tables.exec = Jvm.exec) (hb : c.code = cc) (hl : l.stackTraces = false) {own cls text : String} {names : List String} {ik is ic mc ms sa : Nat} {A : Nat → Prop}
    (hown : s.vm.findClass own = some m.cls) (hcls : Bundle.fit cls = true) (hnames : ∀ n ∈ names, Bundle.fit n = true)
    (hk : (Cond.classLink own ik cls).before args s = true) (hini : (Cond.initialized cls).before args s = true) (hstr : vk_R own is text sa s) (hat : ∀ w ∈ vx_atS own ic cls names, w.before args s = true)
    (hgood : ∀ w ∈ Cond.classLink own ik cls :: Cond.initialized cls :: vx_atS own ic cls names, vx_ot w = true)
    (hU : vx_Zq Bundle.tN "UNASSIGNED_STACK" Bundle.steD A s s.heap) (hN : vx_Zq Bundle.tN "SUPPRESSED_SENTINEL" Bundle.listD A s s.heap) (hS : va_S A s.heap H locs) (hsize : ls.size = c.maxLocals)
    (d0 : decode cc pc = .ok (.new ik, 3)) (d3 : decode cc (pc + 3) = .ok (.dup, 1)) (d4 : decode cc (pc + 4) = .ok (.ldc is, 2)) (d6 : decode cc (pc + 6) = .ok (.invokespecial ic, 3)) (d9 : decode cc (pc + 9) = .ok (.athrow, 1))
    (hout : ∀ x ∈ c.exceptionTable.toList, covers x (pc + 9) = false)
    (hRframes : names.length + 3 < R.frames) (hRlocals : (rest.map fun v => v.category).sum + (13 * (names.length + 1) + 43) ≤ R.locals) (hRcells : cells + 1 ≤ R.cells) (hRslots : slots + 6 ≤ R.slots) (hlocks : meth.locks = false)
    (hx : ∀ t : State, s.vm.Alike t.vm → H.size ≤ t.heap.size → (∀ q : Nat, q < H.size → t.heap[q]? = H[q]?) → XC cls s t)
    (hf : ∀ z ∈ locs, free z.base) (hc : cells + 1 ≤ mc) (hs : slots + 6 ≤ ms) :
    W p l e R s m args below meth c H locs cells slots (vx_MQ below Qc XC args s mc ms free) (F0 m pc ls rest) := by
  intro T hT X
  have htr : e.platform.stackTraces = false := (show e.platform.stackTraces = l.stackTraces by rw [X.admits.platform]).trans hl
  have Y := vx_rebase X (R' := { frames := R.frames, locals := R.locals, cells := 1, slots := 6 }) (Nat.le_refl _) (Nat.le_refl _) hRcells hRslots
  obtain ⟨s', hA⟩ : ∃ z, z = (T.setVm s.vm).setFrames (.invoking m args :: below) := ⟨_, rfl⟩
  rw [← hA] at Y
  have hvm : s'.vm = s.vm := by rw [hA]; rfl
  have hhp : s'.heap = H := by rw [hA]; exact hT
  have hW0 : s.WarmedH s'.vm := by rw [hvm]; exact State.WarmedH.refl s
  have hat' : ∀ w ∈ vx_atS own ic cls names, w.before args s' = true := fun w hw => vx_ot_at hW0 hvm.symm (hgood w (List.mem_cons_of_mem _ (List.mem_cons_of_mem _ hw))) (hat w hw)
  have hk' : (Cond.classLink own ik cls).before args s' = true := vx_ot_at hW0 hvm.symm (hgood _ List.mem_cons_self) hk
  have hini' : (Cond.initialized cls).before args s' = true := vx_ot_at hW0 hvm.symm (hgood _ (List.mem_cons_of_mem _ List.mem_cons_self)) hini
  have hU' : vx_Zq Bundle.tN "UNASSIGNED_STACK" Bundle.steD A s' s'.heap := by rw [hhp]; exact vx_Zq.moved hW0.alike (hU.kept hS.2.1)
  have hN' : vx_Zq Bundle.tN "SUPPRESSED_SENTINEL" Bundle.listD A s' s'.heap := by rw [hhp]; exact vx_Zq.moved hW0.alike (hN.kept hS.2.1)
  have h : ∀ w ∈ Bundle.ownAtoms own ic cls names, w.before args s' = true := vx_own hat' (vx_isRefq hU'.1) (vx_isRefq hN'.1) hU'.2.word hN'.2.word
  have hown' : s'.vm.findClass own = some m.cls := by rw [hvm]; exact hown
  have hins : (Cond.instantiable cls 6).before args s' = true := h _ (by simp [Bundle.ownAtoms])
  obtain ⟨vm₁, cX, kX, hfX, hkX, -, -, X₁, st1⟩ := Y.newCold hexec (own := own) (C := cls) (index := ik) (n := 6) hown' hk' hins hini'
    (g := F0 m pc ls rest) rfl (by rw [hb]; exact d0) (Nat.le_refl _) (Nat.le_refl _)
  generalize hT1 : (T.setVm vm₁).pushCell { cls := cX, slots := kX.instanceTypes.map defaultValue, vm := .none } = T1 at X₁ st1
  have hcat : (Value.ref T.heap.size).category = 1 := rfl
  have hcellA : T1.heap[T.heap.size]? = some (freshCell cX kX) := by rw [← hT1]; exact State.heap_pushCell_size _ _
  have d3' : decode c.code (pc + 3) = .ok (.dup, 1) := by rw [hb]; exact d3
  have d4' : decode c.code (pc + 4) = .ok (.ldc is, 2) := by rw [hb]; exact d4
  have hstr' : vk_R own is text sa s' := vk_R.warm hW0 hstr
  obtain ⟨U, hsteps, hrun, hend, hW, hsame, ce, hce, hO⟩ := X₁.ctorThrowS hexec htr (own := own) (cls := cls) (names := names) (ic := ic) hown' hcls hnames h (fun x hx => nomatch hx) hfX hkX hcellA (by rw [hhp, hT]; exact Nat.le_refl _) (msg := .ref sa) rfl
    (g := { method := m, pc := pc + 6, locals := ls, stack := .ref sa :: .ref T.heap.size :: .ref T.heap.size :: rest, locked := none }) rfl hsize rfl rfl (rest := rest) rfl
    (by rw [hb]; exact d6) (by rw [hb]; exact d9) hout hRframes (by simp only [List.map_cons, List.sum_cons, hcat]; omega) hlocks
  obtain ⟨f1, f2⟩ := vx_frame hsame
  rw [hhp] at f1 f2
  have hWs : s.WarmedH U.vm := State.WarmedH.trans hW0 hW
  have hcl : s.vm.findClass cls = some ce.cls := by
    have h9 := hO.cls
    rw [hvm] at h9
    exact h9
  have hall : s.sameButNew ({ U with vm := s.vm } : State) locs mc ms := by
    subst hA
    obtain ⟨e1, e2⟩ := hsame
    rw [State.setFrames_setFrames] at e1
    have h2 : (T.setVm s.vm).sameButNew ({ U with vm := s.vm } : State) [] (0 + 1) (0 + 6) := ⟨e1, e2⟩
    have h3 := X.same.trans h2
    rw [List.append_nil] at h3
    exact h3.mono hc hs
  refine ⟨U, ?_, .threw T.heap.size, hrun, hend, Or.inr ⟨T.heap.size, rfl, cls, ce, locs, hx U hWs.alike f1 (fun q hq => f2 q hq (fun z hz => nomatch hz)), hce, hO.vm, hcl, hWs, hall, hf⟩⟩
  refine st1 _ ?_
  show Steps p.tables e below (T1.setTop { method := m, pc := pc + 3, locals := ls, stack := .ref T.heap.size :: rest, locked := none }) _
  jvm_step X₁.here [X₁.here.top, hexec, d3', Value.category]
  exact X₁.ldcString hexec (own := own) (text := text) (index := is) (a := sa) hown' hstr'.1 hstr'.2
    (g := { method := m, pc := pc + 4, locals := ls, stack := .ref T.heap.size :: .ref T.heap.size :: rest, locked := none }) rfl d4' _ hsteps
/-- 'throw new E("text")', the text by a wide index -/
theorem vx_throwSW {cc : ByteArray} {pc : Nat} (hexec : p.tables.exec = Jvm.exec) (hb : c.code = cc) (hl : l.stackTraces = false) {own cls text : String} {names : List String} {ik is ic mc ms sa : Nat} {A : Nat → Prop}
    (hown : s.vm.findClass own = some m.cls) (hcls : Bundle.fit cls = true) (hnames : ∀ n ∈ names, Bundle.fit n = true)
    (hk : (Cond.classLink own ik cls).before args s = true) (hini : (Cond.initialized cls).before args s = true) (hstr : vk_R own is text sa s) (hat : ∀ w ∈ vx_atS own ic cls names, w.before args s = true)
    (hgood : ∀ w ∈ Cond.classLink own ik cls :: Cond.initialized cls :: vx_atS own ic cls names, vx_ot w = true)
    (hU : vx_Zq Bundle.tN "UNASSIGNED_STACK" Bundle.steD A s s.heap) (hN : vx_Zq Bundle.tN "SUPPRESSED_SENTINEL" Bundle.listD A s s.heap) (hS : va_S A s.heap H locs) (hsize : ls.size = c.maxLocals)
    (d0 : decode cc pc = .ok (.new ik, 3)) (d3 : decode cc (pc + 3) = .ok (.dup, 1)) (d4 : decode cc (pc + 4) = .ok (.ldc_w is, 3)) (d7 : decode cc (pc + 7) = .ok (.invokespecial ic, 3)) (d10 : decode cc (pc + 10) = .ok (.athrow, 1))
    (hout : ∀ x ∈ c.exceptionTable.toList, covers x (pc + 10) = false)
    (hRframes : names.length + 3 < R.frames) (hRlocals : (rest.map fun v => v.category).sum + (13 * (names.length + 1) + 43) ≤ R.locals) (hRcells : cells + 1 ≤ R.cells) (hRslots : slots + 6 ≤ R.slots) (hlocks : meth.locks = false)
    (hx : ∀ t : State, s.vm.Alike t.vm → H.size ≤ t.heap.size → (∀ q : Nat, q < H.size → t.heap[q]? = H[q]?) → XC cls s t)
    (hf : ∀ z ∈ locs, free z.base) (hc : cells + 1 ≤ mc) (hs : slots + 6 ≤ ms) :
    W p l e R s m args below meth c H locs cells slots (vx_MQ below Qc XC args s mc ms free) (F0 m pc ls rest) := by
  intro T hT X
  have htr : e.platform.stackTraces = false := (show e.platform.stackTraces = l.stackTraces by rw [X.admits.platform]).trans hl
  have Y := vx_rebase X (R' := { frames := R.frames, locals := R.locals, cells := 1, slots := 6 }) (Nat.le_refl _) (Nat.le_refl _) hRcells hRslots
  obtain ⟨s', hA⟩ : ∃ z, z = (T.setVm s.vm).setFrames (.invoking m args :: below) := ⟨_, rfl⟩
  rw [← hA] at Y
  have hvm : s'.vm = s.vm := by rw [hA]; rfl
  have hhp : s'.heap = H := by rw [hA]; exact hT
  have hW0 : s.WarmedH s'.vm := by rw [hvm]; exact State.WarmedH.refl s
  have hat' : ∀ w ∈ vx_atS own ic cls names, w.before args s' = true := fun w hw => vx_ot_at hW0 hvm.symm (hgood w (List.mem_cons_of_mem _ (List.mem_cons_of_mem _ hw))) (hat w hw)
  have hk' : (Cond.classLink own ik cls).before args s' = true := vx_ot_at hW0 hvm.symm (hgood _ List.mem_cons_self) hk
  have hini' : (Cond.initialized cls).before args s' = true := vx_ot_at hW0 hvm.symm (hgood _ (List.mem_cons_of_mem _ List.mem_cons_self)) hini
  have hU' : vx_Zq Bundle.tN "UNASSIGNED_STACK" Bundle.steD A s' s'.heap := by rw [hhp]; exact vx_Zq.moved hW0.alike (hU.kept hS.2.1)
  have hN' : vx_Zq Bundle.tN "SUPPRESSED_SENTINEL" Bundle.listD A s' s'.heap := by rw [hhp]; exact vx_Zq.moved hW0.alike (hN.kept hS.2.1)
  have h : ∀ w ∈ Bundle.ownAtoms own ic cls names, w.before args s' = true := vx_own hat' (vx_isRefq hU'.1) (vx_isRefq hN'.1) hU'.2.word hN'.2.word
  have hown' : s'.vm.findClass own = some m.cls := by rw [hvm]; exact hown
  have hins : (Cond.instantiable cls 6).before args s' = true := h _ (by simp [Bundle.ownAtoms])
  obtain ⟨vm₁, cX, kX, hfX, hkX, -, -, X₁, st1⟩ := Y.newCold hexec (own := own) (C := cls) (index := ik) (n := 6) hown' hk' hins hini'
    (g := F0 m pc ls rest) rfl (by rw [hb]; exact d0) (Nat.le_refl _) (Nat.le_refl _)
  generalize hT1 : (T.setVm vm₁).pushCell { cls := cX, slots := kX.instanceTypes.map defaultValue, vm := .none } = T1 at X₁ st1
  have hcat : (Value.ref T.heap.size).category = 1 := rfl
  have hcellA : T1.heap[T.heap.size]? = some (freshCell cX kX) := by rw [← hT1]; exact State.heap_pushCell_size _ _
  have d3' : decode c.code (pc + 3) = .ok (.dup, 1) := by rw [hb]; exact d3
  have d4' : decode c.code (pc + 4) = .ok (.ldc_w is, 3) := by rw [hb]; exact d4
  have hstr' : vk_R own is text sa s' := vk_R.warm hW0 hstr
  obtain ⟨U, hsteps, hrun, hend, hW, hsame, ce, hce, hO⟩ := X₁.ctorThrowS hexec htr (own := own) (cls := cls) (names := names) (ic := ic) hown' hcls hnames h (fun x hx => nomatch hx) hfX hkX hcellA (by rw [hhp, hT]; exact Nat.le_refl _) (msg := .ref sa) rfl
    (g := { method := m, pc := pc + 7, locals := ls, stack := .ref sa :: .ref T.heap.size :: .ref T.heap.size :: rest, locked := none }) rfl hsize rfl rfl (rest := rest) rfl
    (by rw [hb]; exact d7) (by rw [hb]; exact d10) hout hRframes (by simp only [List.map_cons, List.sum_cons, hcat]; omega) hlocks
  obtain ⟨f1, f2⟩ := vx_frame hsame
  rw [hhp] at f1 f2
  have hWs : s.WarmedH U.vm := State.WarmedH.trans hW0 hW
  have hcl : s.vm.findClass cls = some ce.cls := by
    have h9 := hO.cls
    rw [hvm] at h9
    exact h9
  have hall : s.sameButNew ({ U with vm := s.vm } : State) locs mc ms := by
    subst hA
    obtain ⟨e1, e2⟩ := hsame
    rw [State.setFrames_setFrames] at e1
    have h2 : (T.setVm s.vm).sameButNew ({ U with vm := s.vm } : State) [] (0 + 1) (0 + 6) := ⟨e1, e2⟩
    have h3 := X.same.trans h2
    rw [List.append_nil] at h3
    exact h3.mono hc hs
  refine ⟨U, ?_, .threw T.heap.size, hrun, hend, Or.inr ⟨T.heap.size, rfl, cls, ce, locs, hx U hWs.alike f1 (fun q hq => f2 q hq (fun z hz => nomatch hz)), hce, hO.vm, hcl, hWs, hall, hf⟩⟩
  refine st1 _ ?_
  show Steps p.tables e below (T1.setTop { method := m, pc := pc + 3, locals := ls, stack := .ref T.heap.size :: rest, locked := none }) _
  jvm_step X₁.here [X₁.here.top, hexec, d3', Value.category]
  exact X₁.ldcStringW hexec (own := own) (text := text) (index := is) (a := sa) hown' hstr'.1 hstr'.2
    (g := { method := m, pc := pc + 4, locals := ls, stack := .ref T.heap.size :: .ref T.heap.size :: rest, locked := none }) rfl d4' _ hsteps
end Ends
section Bodies
variable {l : Launch}
theorem vx_ofW {y : MethodName} {ws ws' : List Cond} {rm : Room} {Pc : Array Value → State → Prop} {Qc : Array Value → State → Outcome → State → Prop} {XC : String → State → State → Prop} {mc ms : Nat} {free : Addr → Prop} {cc : ByteArray} {maxL : Nat} {ret : Option FieldType}
    (hy : plainName y.cls = true) (hw : ws = Cond.code y cc maxL ret :: ws')
    (body : ∀ p e s m args below meth c s₁, BodyLoose p l y (headSpec ws rm) cc maxL ret e s m args below meth c s₁ → c.maxLocals = maxL → (∀ x ∈ c.exceptionTable.toList, False) → Pc args s →
      W p l e (headSpec ws rm).room s m args below meth c s.heap [] 0 0 (vx_MQ below Qc XC args s mc ms free) (entryFrame m args maxL)) : vx_Met l y ws rm Pc Qc XC mc ms free := by
  refine MetFree.of_bodyS (code := cc) (maxLocals := maxL) (ret := ret) hy ?_ ?_
  · intro args s m h hn
    obtain ⟨meth, c, h1, h2, h3, h4, h5, h6, -, -⟩ := Cond.code_spec hn (atoms_spec (ws := ws) h _ (by rw [hw]; exact List.mem_cons_self))
    exact ⟨meth, c, h1, h2, h3, h4, h5, h6⟩
  · intro p e s m args below meth c s₁ B hml hP _
    have hh0 : s₁.heap = s.heap := by rw [B.state]; rfl
    have ht : ∀ x ∈ c.exceptionTable.toList, False := by
      obtain ⟨meth9, c9, h1, h2, -, -, -, -, h7, -⟩ := Cond.code_spec B.named (atoms_spec (ws := ws) B.pre _ (by rw [hw]; exact List.mem_cons_self))
      cases Option.some.inj (h1.symm.trans B.method)
      cases Option.some.inj (h2.symm.trans (Stand.of_body B).code)
      intro x hx
      rw [Array.isEmpty_iff.mp h7] at hx
      cases hx
    obtain ⟨t, a1, o, b1, b2, b3⟩ := body p e s m args below meth c s₁ B hml ht hP s₁ hh0 (Stand.of_body B)
    exact ⟨t, o, a1, b1, b2, b3⟩
/-- the table of a body with handlers -/
theorem vx_table {p : Program} {x y : MethodName} {S : Spec} {cc bytes : ByteArray} {maxL maxL' : Nat} {ret ret' : Option FieldType} {e : Env} {s s₁ : State} {m : MethodId} {args : Array Value} {below : List Frame} {meth : Method} {c : Code} {hh : List (Nat × Nat × Nat × Nat)}
    (B : BodyLoose p l y S cc maxL ret e s m args below meth c s₁) (h : (Cond.codeWith y bytes maxL' ret' hh).before args s = true) : c.exceptionTable.toList = tableOf hh := by
  obtain ⟨m9, meth9, c9, hn9, h1, h2, -, -, h6, -⟩ := Cond.codeWith_spec h
  cases Option.some.inj (hn9.symm.trans B.named)
  cases Option.some.inj (h1.symm.trans B.method)
  cases Option.some.inj (h2.symm.trans (Stand.of_body B).code)
  rw [← h6, table_eq]
end Bodies
end VXA
/-! ===== END ===== -/
/-! ===== BEGIN a static call of a method with an exception table ===== -/
section VXS
variable {p : Program} {l : Launch} {e : Env} {R : Room} {s : State} {m : MethodId} {args : Array Value} {below : List Frame} {meth : Method} {c : Code} {T : State} {H : Heap} {locs : List Loc} {cells slots : Nat}
abbrev vx_CSW (R : Room) (s : State) (args : Array Value) (own : String) (index : Nat) (y : MethodName) (bytes : ByteArray) (maxL : Nat) (ret : Option FieldType) (hh : List (Nat × Nat × Nat × Nat)) (ws : List Cond) (rm : Room) (mc ms n : Nat) : Prop :=
  (rm.cells = mc ∧ rm.slots = ms ∧ rm.frames + 1 ≤ R.frames ∧ 8 + (maxL + 11) + rm.locals ≤ R.locals ∧ (∀ w ∈ ws, ∀ (a' : Array Value) (U : State), s.WarmedH U.vm → w.before a' U = true) ∧ Cond.codeWith y bytes maxL ret hh ∈ ws) ∧
  (Cond.codeWith y bytes maxL ret hh).before args s = true ∧ (Cond.initialized y.cls).before args s = true ∧ (y.cls ≠ "java/lang/invoke/MethodHandle" ∧ y.cls ≠ "java/lang/invoke/VarHandle") ∧
  (∀ sig, parseMethodDescriptor y.desc = some sig → n = sig.parameters.length) ∧ (Cond.methodLink own index y).before args s = true ∧ (Cond.static y).before args s = true
theorem vx_cwSW {own : String} {index maxL mc ms : Nat} {y : MethodName} {bytes : ByteArray} {ret : Option FieldType} {hh : List (Nat × Nat × Nat × Nat)} {Ts ws ws' : List Cond} {rm : Room} (n : Nat) (ht : ∀ w ∈ Ts, w.before args s = true) (hT : GoodIn Ts (va_wsS own index y ws)) (hw : ws = Cond.codeWith y bytes maxL ret hh :: ws') (hrc : rm.cells = mc) (hrs : rm.slots = ms)
    (hd : y.cls ≠ "java/lang/invoke/MethodHandle" ∧ y.cls ≠ "java/lang/invoke/VarHandle" ∧ (parseMethodDescriptor y.desc).map (fun d => d.parameters.length) = some n) (hR : rm.frames + 1 ≤ R.frames ∧ 8 + (maxL + 11) + rm.locals ≤ R.locals) :
    vx_CSW R s args own index y bytes maxL ret hh ws rm mc ms n := by
  have ok : ∀ w ∈ va_wsS own index y ws, w.before args s = true := fun w h => ht w (hT w h).1
  have hG : GoodIn Ts ws := fun w h => hT w (by unfold va_wsS; exact List.mem_append_right _ h)
  have hc : Cond.codeWith y bytes maxL ret hh ∈ ws := by rw [hw]; exact List.mem_cons_self
  refine ⟨⟨hrc, hrs, hR.1, hR.2, pay_in ht hG, hc⟩, ht _ (hG _ hc).1, ok _ (by simp [va_wsS]), ⟨hd.1, hd.2.1⟩, fun sig h => ?_, ok _ (by simp [va_wsS]), ok _ (by simp [va_wsS])⟩
  have h2 := hd.2.2
  rw [h] at h2
  exact (Option.some.inj h2).symm
theorem vx_callSW (X : Stand p l e R s m args below meth c T locs cells slots) (hexec : p.tables.exec = Jvm.exec) {own : String} {index : Nat} {y : MethodName} {bytes : ByteArray} {maxL : Nat} {ret : Option FieldType} {hh : List (Nat × Nat × Nat × Nat)}
    (hown : s.vm.findClass own = some m.cls) (hlink : (Cond.methodLink own index y).before args s = true) (hstat : (Cond.static y).before args s = true) (hinit : (Cond.initialized y.cls).before args s = true)
    (hcode : (Cond.codeWith y bytes maxL ret hh).before args s = true) (hy : y.cls ≠ "java/lang/invoke/MethodHandle" ∧ y.cls ≠ "java/lang/invoke/VarHandle")
    {W9 : Nat} {Pre : Pt → Array Value → Prop} {Post : Pt → Array Value → Option Value → Pt → Prop} (hK : Back l R p e below s args y 3 W9 Pre Post)
    {g : JFrame} (hg : g.method = m) (hsize : g.locals.size = c.maxLocals) {argsL rest : List Value} (hlen : ∀ sig, parseMethodDescriptor y.desc = some sig → argsL.length = sig.parameters.length)
    (hstack : g.stack = argsL.reverse ++ rest) (hW : 2 * g.monitorRoom + (rest.map fun v => v.category).sum ≤ W9) (hdg : decode c.code g.pc = .ok (.invokestatic index, 3))
    (hpre : ∀ vm₁, s.WarmedH vm₁ → Pre ⟨T.setVm vm₁, locs, cells, slots⟩ argsL.toArray) :
    ∃ (v : Option Value) (vm₁ : Vm) (B : Pt), s.WarmedH vm₁ ∧ Stand p l e R s m args below meth c B.U B.locs B.cells B.slots ∧ Post ⟨T.setVm vm₁, locs, cells, slots⟩ argsL.toArray v B ∧
      ∀ target, Steps p.tables e below (B.U.setTop { g with pc := g.pc + 3, stack := v.toList ++ rest }) target → Steps p.tables e below (T.setTop g) target := by
  obtain ⟨mk, methM, cM, hnamed, hmethM, -, -, -, -, -, -, hsigM⟩ := Cond.codeWith_spec hcode
  have hstatic : methM.isStatic = true := Cond.static_spec hnamed hmethM hstat
  obtain ⟨kP, hkP, -⟩ := className_of_methodNamed hnamed
  have hinitP : kP.init = .initialized := Cond.initialized_spec (findClass_of_methodNamed hnamed) hkP hinit
  obtain ⟨vm₁, X₁, hstep₁⟩ := X.invokestatic hexec hown hlink hnamed hmethM hstatic hkP hinitP hy (g := g) hg (argsL := argsL) (rest := rest) (hlen _ hsigM) hstack hdg
  obtain ⟨v, B, X', hpost, hsteps⟩ := hK m meth c ⟨T.setVm vm₁, locs, cells, slots⟩ { g with stack := rest } (.invokestatic index) mk argsL.toArray X₁ hg hsize hdg hW (X₁.named hnamed) (hpre vm₁ X₁.warmed)
  exact ⟨v, vm₁, B, X₁.warmed, X', hpost, fun target h => hstep₁ _ fun acts => by rw [doInvoke_state]; exact hsteps.trans h⟩
theorem vx_runSW {y : MethodName} {bytes cc : ByteArray} {maxL nL mc ms n index : Nat} {ret : Option FieldType} {hh : List (Nat × Nat × Nat × Nat)} {ws : List Cond} {rm : Room} {Pc : Array Value → State → Prop} {Qc : Array Value → State → Outcome → State → Prop} {free : Addr → Prop} {Ts : List Cond} {own : String} {As rest : List Value} {g : JFrame}
    (S : CallFix p m c cc nL s args Ts own) (hM : Met l y ws rm Pc Qc mc ms free) (cw : vx_CSW R s args own index y bytes maxL ret hh ws rm mc ms n) (hp : PreS s H Pc As)
    (hg : g.method = m) (hn : As.length = n) (hsize : g.locals.size = nL) (hstack : g.stack = As.reverse ++ rest) (hW : 2 * g.monitorRoom + (rest.map fun v => v.category).sum ≤ 8) (hdg : decode cc g.pc = .ok (.invokestatic index, 3)) (hf : cells + mc ≤ R.cells ∧ slots + ms ≤ R.slots) :
    va_Run p l e R s m args below meth c H locs cells slots mc ms g rest (Qc As.toArray) (free) := by
  obtain ⟨⟨hrc, hrs, hfr, hlo, hws, hcw⟩, hcode, hini, hy, hlen, hl, hstt⟩ := cw
  have hK : Back l R p e below s args y 3 8 (PreOf R mc ms Pc) (PostOf Qc mc ms free) := va_backW (hh := hh) (bytes := bytes) (maxL := maxL) (ret := ret) hM hp.1 hrc hrs hfr hlo hws hcw (fun a' U hW => word_at hW (Or.inl (by first | rfl | simp [Cond.onTables, Cond.keeps, Cond.steady])) hini)
  obtain ⟨hx, hb, hml, ho, -⟩ := S
  intro T hT X
  obtain ⟨v, vm₁, ⟨U', l2, c2, s2⟩, hW₁, X', ⟨g', mk, t, L, e1, e2, hq, h1, hL, h2, h3⟩, st⟩ := vx_callSW X hx (hh := hh) (bytes := bytes) (maxL := maxL) (ret := ret) ho hl hstt hini hcode hy hK hg (hsize.trans hml.symm) (argsL := As) (rest := rest) (fun sig h => hn.trans (hlen sig h)) hstack hW (by rw [hb]; exact hdg)
    (fun vm₁ hW₁ => ⟨hf.1, hf.2, hp.2 (T.setVm vm₁) hT hW₁⟩)
  dsimp only [Pt.U, Pt.locs, Pt.cells, Pt.slots] at X' e1 e2 h1 h2 h3 st
  subst h1; subst h2; subst h3
  exact ⟨v, (T.setVm vm₁).calling g' mk As.toArray, t, U', L, hT, X', hL, e1, e2, hq, st⟩
theorem vx_lt {D : va_G} {cl : List vw_C} {ws : va_W} {H1 : Heap} (h : va_P D cl ws H1) {k : Nat} {q : Nat × va_E} (hk : ws[k]? = some q) : q.1 < H1.size := (h k q hk).lt
end VXS
/-! ===== END ===== -/
/-! ===== BEGIN methods with a table of their own: called by a name, returning or throwing ===== -/
section VXH
/-! vx_backW, vx_callVX, vx_callSX, vx_callVW, vx_runVW, vx_runVX, vx_runSX, vx_ofWH follow the same proofs as their sisters above (Free/Laws.lean, Shelf42/LK1.lean); vx_outP calls Shelf42/NT130.lean (outThrough). -/
section
variable {l : Launch} {R : Room} {p : Program} {e : Env} {below : List Frame} {s : State} {sargs : Array Value} {y : MethodName} {len W9 : Nat}
theorem vx_backW {ws : List Cond} {rm : Room} {Pc : Array Value → State → Prop} {Qc : Array Value → State → Outcome → State → Prop} {XC : String → State → State → Prop} {mc ms : Nat} {free : Addr → Prop} {bytes : ByteArray} {maxL : Nat} {ret : Option FieldType} {hh : List (Nat × Nat × Nat × Nat)}
    (hM : vx_Met l y ws rm Pc Qc XC mc ms free) (hblind : FrameBlind Pc) (hrc : rm.cells = mc) (hrs : rm.slots = ms)
    (hframes : rm.frames + 1 ≤ R.frames) (hlocals : W9 + (maxL + 11) + rm.locals ≤ R.locals)
    (hws : ∀ w ∈ ws, ∀ a' U, s.WarmedH U.vm → w.before a' U = true) (hcode : Cond.codeWith y bytes maxL ret hh ∈ ws) (hinit : ∀ a' U, s.WarmedH U.vm → (Cond.initialized y.cls).before a' U = true) :
    vx_Back l R p e below s sargs y len W9 (PreOf R mc ms Pc) (PostOf Qc mc ms free) (vx_Post XC mc ms free) := by
  intro m meth c A g ig mk a X hg hsize hdg hW hn hp
  have h1 : (headSpec ws rm).pre.before a A.U = true := atoms_intro fun w hw => hws w hw _ _ X.warmed
  have h2 : (Cond.codeWith y bytes maxL ret hh).before a A.U = true := hws _ hcode _ _ X.warmed
  have h3 : (Cond.initialized y.cls).before a A.U = true := hinit _ _ X.warmed
  have h4 : A.cells + (headSpec ws rm).room.cells ≤ R.cells := by rw [show (headSpec ws rm).room.cells = mc from hrc]; exact hp.1
  have h5 : A.slots + (headSpec ws rm).room.slots ≤ R.slots := by rw [show (headSpec ws rm).room.slots = ms from hrs]; exact hp.2.1
  have hPc : Pc a (A.U.calling g mk a) := hblind _ _ _ _ hp.2.2
  obtain ⟨U, Ls, c0, s0⟩ := A
  dsimp only [Pt.U, Pt.locs, Pt.cells, Pt.slots] at h1 h2 h3 h4 h5 X hn hPc ⊢
  obtain ⟨m9, methY, cY, hn9, hmY, hcY, -, hlY, -⟩ := Cond.codeWith_spec h2
  cases Option.some.inj (hn9.symm.trans hn)
  obtain ⟨kY, hkY, -⟩ := className_of_methodNamed hn
  have hinitY : kY.init = .initialized := Cond.initialized_spec (findClass_of_methodNamed hn) hkY h3
  have h : At U g.method c below := by rw [hg]; exact X.here
  have hlocals9 : W9 + (maxL + 11) + (headSpec ws rm).room.locals ≤ R.locals := hlocals
  have happ : (headSpec ws rm).appliesLoose y e.platform (U.calling g mk a) = true :=
    Spec.appliesLoose_calling (g := g) h hdg hn hkY hinitY
      (X.room_calling (g := g) (R' := (headSpec ws rm).room) hsize hmY hcY hframes (by rw [hlY]; omega) h4 h5) h1
  obtain ⟨mid, hmid⟩ := h.above
  have hfr : (U.setTop g).frames = (.java g :: mid) ++ below := by rw [State.frames_setTop' g h.top, hmid]; rfl
  obtain ⟨o, s₂, hsteps, -, hend, hq⟩ := Steps.callFree hM p X.admits X.cas X.clock (acts := []) hfr happ hPc trivial
  have hq' : vx_Q Qc XC mc ms free a (U.calling g mk a) o s₂ := hq
  rw [State.frames_setTop' g h.top] at hend
  obtain ⟨g₀, hg0⟩ := Option.isSome_iff_exists.mp h.top
  obtain ⟨r, hr⟩ := State.topJava?_eq_some.mp hg0
  have hr' : (({ U with heap := s₂.heap, slotsUsed := s₂.slotsUsed } : State).setVm s₂.vm).frames = .java g₀ :: r := hr
  rcases hq' with ⟨hqc, L, hfe, hL⟩ | ⟨q, rfl, E, ce, L, hx, hce, hcv, hcl, hW₂, hsm, hL⟩
  · obtain ⟨⟨v, rfl⟩, hW₂, e2, q2, q3, q4, q5, q6⟩ := id hfe
    have e3 : s₂ = ({ (U.calling g mk a).setFrames s₂.frames with heap := s₂.heap, slotsUsed := s₂.slotsUsed } : State).setVm s₂.vm := by
      have : s₂ = ({ s₂ with vm := (U.calling g mk a).vm } : State).setVm s₂.vm := rfl
      rw [e2] at this
      exact this
    obtain ⟨c₂, i₂, len₂, hc₂, hd₂, hf₂⟩ := hend
    have hW' : U.WarmedH s₂.vm := hW₂
    have hcc : c₂ = c := by
      have h1 : s₂.code? g.method = U.code? g.method := by
        rw [State.code?_eq, State.code?_eq, hW'.alike.method?]
      exact Option.some.inj (hc₂.symm.trans (h1.trans h.code))
    subst hcc
    have hlen : len₂ = len := by rw [hdg] at hd₂; cases hd₂; rfl
    subst hlen
    have hs₂ : s₂ = (({ U with heap := s₂.heap, slotsUsed := s₂.slotsUsed } : State).setVm s₂.vm).setTop { g with pc := g.pc + len₂, stack := v.toList ++ g.stack } := by
      refine e3.trans ?_
      rw [hf₂, State.calling_eq h.top, State.setFrames_setFrames, State.setTop_of_frames _ hr', hr]
      rfl
    have hsame : U.sameButNew ({ U with heap := s₂.heap, slotsUsed := s₂.slotsUsed } : State) L mc ms := by
      refine ⟨?_, q2, q3, q4, q5, q6⟩
      obtain ⟨t, ht, -⟩ := State.frames_cons hr
      show ({ U with heap := s₂.heap, slotsUsed := s₂.slotsUsed } : State) = { U.setFrames U.frames with heap := s₂.heap, slotsUsed := s₂.slotsUsed }
      rw [State.setFrames_self ht]
    subst hg
    refine Or.inl ⟨v, ⟨(({ U with heap := s₂.heap, slotsUsed := s₂.slotsUsed } : State).setVm s₂.vm), Ls ++ L, c0 + mc, s0 + ms⟩,
      ⟨X.admits, X.cas, X.clock, X.frames, X.room, X.hears, X.method, X.code, (X.here.setHeapUsed s₂.heap s₂.slotsUsed).setVm hW'.alike, X.tail, State.WarmedH.trans X.warmed hW', X.limits, X.bytes, X.same.trans (hsame.setVm s.vm)⟩,
      ⟨g, mk, s₂, L, rfl, rfl, hqc, rfl, hL, rfl, rfl⟩, ?_⟩
    show Steps p.tables e below _ ((({ U with heap := s₂.heap, slotsUsed := s₂.slotsUsed } : State).setVm s₂.vm).setTop { g with pc := g.pc + len₂, stack := v.toList ++ g.stack })
    rw [← hs₂]
    exact hsteps
  · obtain ⟨e2, q2, q3, q4, q5, q6⟩ := id hsm
    have e3 : s₂ = ({ (U.calling g mk a).setFrames s₂.frames with heap := s₂.heap, slotsUsed := s₂.slotsUsed } : State).setVm s₂.vm := by
      have : s₂ = ({ s₂ with vm := (U.calling g mk a).vm } : State).setVm s₂.vm := rfl
      rw [e2] at this
      exact this
    have hf₂ : s₂.frames = .throwing q :: .java g :: U.frames.tail := hend
    have hW' : U.WarmedH s₂.vm := hW₂
    have hs₂ : s₂ = ((({ U with heap := s₂.heap, slotsUsed := s₂.slotsUsed } : State).setVm s₂.vm).setTop g).pushFrame (.throwing q) := by
      refine e3.trans ?_
      rw [hf₂, State.calling_eq h.top, State.setFrames_setFrames, State.pushFrame, State.frames_setTop _ hr', State.setTop_of_frames _ hr', State.setFrames_setFrames, hr]
      rfl
    have hsame : U.sameButNew ({ U with heap := s₂.heap, slotsUsed := s₂.slotsUsed } : State) L mc ms := by
      refine ⟨?_, q2, q3, q4, q5, q6⟩
      obtain ⟨t, ht, -⟩ := State.frames_cons hr
      show ({ U with heap := s₂.heap, slotsUsed := s₂.slotsUsed } : State) = { U.setFrames U.frames with heap := s₂.heap, slotsUsed := s₂.slotsUsed }
      rw [State.setFrames_self ht]
    subst hg
    refine Or.inr ⟨q, ⟨(({ U with heap := s₂.heap, slotsUsed := s₂.slotsUsed } : State).setVm s₂.vm), Ls ++ L, c0 + mc, s0 + ms⟩,
      ⟨X.admits, X.cas, X.clock, X.frames, X.room, X.hears, X.method, X.code, (X.here.setHeapUsed s₂.heap s₂.slotsUsed).setVm hW'.alike, X.tail, State.WarmedH.trans X.warmed hW', X.limits, X.bytes, X.same.trans (hsame.setVm s.vm)⟩,
      ⟨g, mk, s₂, L, E, ce, rfl, rfl, hx, hce, hcv, hcl, rfl, hL, rfl, rfl⟩, ?_⟩
    show Steps p.tables e below _ (((({ U with heap := s₂.heap, slotsUsed := s₂.slotsUsed } : State).setVm s₂.vm).setTop g).pushFrame (.throwing q))
    rw [← hs₂]
    exact hsteps
end
variable {p : Program} {l : Launch} {e : Env} {R : Room} {s : State} {m : MethodId} {args : Array Value} {below : List Frame} {meth : Method} {c : Code} {T : State} {H : Heap} {locs : List Loc} {cells slots : Nat}
theorem vx_callVX (X : Stand p l e R s m args below meth c T locs cells slots) (hexec : p.tables.exec = Jvm.exec) {own C : String} {index : Nat} {y : MethodName} {bytes : ByteArray} {maxL : Nat} {ret : Option FieldType} {hh : List (Nat × Nat × Nat × Nat)}
    (hown : s.vm.findClass own = some m.cls) (hlink : (Cond.methodLink own index y).before args s = true) (hinst : (Cond.instanceMethod y).before args s = true) (hsel : (Cond.selects C y y).before args s = true)
    (hcode : (Cond.codeWith y bytes maxL ret hh).before args s = true) (hy : y.cls ≠ "java/lang/invoke/MethodHandle" ∧ y.cls ≠ "java/lang/invoke/VarHandle")
    {W9 : Nat} {Pre : Pt → Array Value → Prop} {Post : Pt → Array Value → Option Value → Pt → Prop} {PostX : Pt → Array Value → Addr → Pt → Prop} (hK : vx_Back l R p e below s args y 3 W9 Pre Post PostX)
    {b : Addr} {cellB : Cell} (hcell : T.heap[b]? = some cellB) (hobj : cellB.vm.isStatics = false) (hcls : s.vm.findClass C = some cellB.cls)
    {g : JFrame} (hg : g.method = m) (hsize : g.locals.size = c.maxLocals) {argsL rest : List Value} (hlen : ∀ sig, parseMethodDescriptor y.desc = some sig → argsL.length = sig.parameters.length)
    (hstack : g.stack = argsL.reverse ++ .ref b :: rest) (hW : 2 * g.monitorRoom + (rest.map fun v => v.category).sum ≤ W9) (hdg : decode c.code g.pc = .ok (.invokevirtual index, 3))
    (hpre : ∀ vm₁, s.WarmedH vm₁ → Pre ⟨T.setVm vm₁, locs, cells, slots⟩ (Value.ref b :: argsL).toArray) :
    (∃ (v : Option Value) (vm₁ : Vm) (B : Pt), s.WarmedH vm₁ ∧ Stand p l e R s m args below meth c B.U B.locs B.cells B.slots ∧ Post ⟨T.setVm vm₁, locs, cells, slots⟩ (Value.ref b :: argsL).toArray v B ∧
      ∀ target, Steps p.tables e below (B.U.setTop { g with pc := g.pc + 3, stack := v.toList ++ rest }) target → Steps p.tables e below (T.setTop g) target) ∨
    (∃ (q : Addr) (vm₁ : Vm) (B : Pt), s.WarmedH vm₁ ∧ Stand p l e R s m args below meth c B.U B.locs B.cells B.slots ∧ PostX ⟨T.setVm vm₁, locs, cells, slots⟩ (Value.ref b :: argsL).toArray q B ∧
      Steps p.tables e below (T.setTop g) ((B.U.setTop { g with stack := rest }).pushFrame (.throwing q))) := by
  obtain ⟨mk, methM, hnamed, hmethM, hstM, habM⟩ := Cond.instanceMethod_spec hinst
  obtain ⟨m8, methM', cM, hn8, hmethM', -, -, -, -, -, -, hsigM⟩ := Cond.codeWith_spec hcode
  cases Option.some.inj (hn8.symm.trans hnamed)
  cases hmethM.symm.trans hmethM'
  obtain ⟨c2, r2, m2, q1, q2, q3, q4, kP, hkP, hkPi⟩ := Cond.selects_spec hsel
  cases hcls.symm.trans q1
  cases (State.methodFound?_of_named hnamed hy).symm.trans q2
  cases hnamed.symm.trans q3
  have hselP : selectMethod e.platform s.vm cellB.cls mk = .method mk := by rw [Launch.admits_selectMethod X.admits]; exact q4
  obtain ⟨vm₁, X₁, hstep₁⟩ := X.invokevirtual hexec hown hlink hnamed hmethM hstM hkP hkPi hy (a := b) (cell := cellB) hcell
    (fun z h => by rw [h] at hobj; cases hobj) hselP hmethM habM hkP hkPi (g := g) hg (argsL := argsL) (rest := rest) (hlen _ hsigM) hstack hdg
  rcases hK m meth c ⟨T.setVm vm₁, locs, cells, slots⟩ { g with stack := rest } (.invokevirtual index) mk (Value.ref b :: argsL).toArray X₁ hg hsize hdg hW (X₁.named hnamed) (hpre vm₁ X₁.warmed) with ⟨v, B, X', hpost, hsteps⟩ | ⟨q, B, X', hpost, hsteps⟩
  · exact Or.inl ⟨v, vm₁, B, X₁.warmed, X', hpost, fun target h => hstep₁ _ fun acts => by rw [doInvoke_state]; exact hsteps.trans h⟩
  · exact Or.inr ⟨q, vm₁, B, X₁.warmed, X', hpost, hstep₁ _ fun acts => by rw [doInvoke_state]; exact hsteps⟩
theorem vx_callSX (X : Stand p l e R s m args below meth c T locs cells slots) (hexec : p.tables.exec = Jvm.exec) {own : String} {index : Nat} {y : MethodName} {bytes : ByteArray} {maxL : Nat} {ret : Option FieldType} {hh : List (Nat × Nat × Nat × Nat)}
    (hown : s.vm.findClass own = some m.cls) (hlink : (Cond.methodLink own index y).before args s = true) (hstat : (Cond.static y).before args s = true) (hinit : (Cond.initialized y.cls).before args s = true)
    (hcode : (Cond.codeWith y bytes maxL ret hh).before args s = true) (hy : y.cls ≠ "java/lang/invoke/MethodHandle" ∧ y.cls ≠ "java/lang/invoke/VarHandle")
    {W9 : Nat} {Pre : Pt → Array Value → Prop} {Post : Pt → Array Value → Option Value → Pt → Prop} {PostX : Pt → Array Value → Addr → Pt → Prop} (hK : vx_Back l R p e below s args y 3 W9 Pre Post PostX)
    {g : JFrame} (hg : g.method = m) (hsize : g.locals.size = c.maxLocals) {argsL rest : List Value} (hlen : ∀ sig, parseMethodDescriptor y.desc = some sig → argsL.length = sig.parameters.length)
    (hstack : g.stack = argsL.reverse ++ rest) (hW : 2 * g.monitorRoom + (rest.map fun v => v.category).sum ≤ W9) (hdg : decode c.code g.pc = .ok (.invokestatic index, 3))
    (hpre : ∀ vm₁, s.WarmedH vm₁ → Pre ⟨T.setVm vm₁, locs, cells, slots⟩ argsL.toArray) :
    (∃ (v : Option Value) (vm₁ : Vm) (B : Pt), s.WarmedH vm₁ ∧ Stand p l e R s m args below meth c B.U B.locs B.cells B.slots ∧ Post ⟨T.setVm vm₁, locs, cells, slots⟩ argsL.toArray v B ∧
      ∀ target, Steps p.tables e below (B.U.setTop { g with pc := g.pc + 3, stack := v.toList ++ rest }) target → Steps p.tables e below (T.setTop g) target) ∨
    (∃ (q : Addr) (vm₁ : Vm) (B : Pt), s.WarmedH vm₁ ∧ Stand p l e R s m args below meth c B.U B.locs B.cells B.slots ∧ PostX ⟨T.setVm vm₁, locs, cells, slots⟩ argsL.toArray q B ∧
      Steps p.tables e below (T.setTop g) ((B.U.setTop { g with stack := rest }).pushFrame (.throwing q))) := by
  obtain ⟨mk, methM, cM, hnamed, hmethM, -, -, -, -, -, -, hsigM⟩ := Cond.codeWith_spec hcode
  have hstatic : methM.isStatic = true := Cond.static_spec hnamed hmethM hstat
  obtain ⟨kP, hkP, -⟩ := className_of_methodNamed hnamed
  have hinitP : kP.init = .initialized := Cond.initialized_spec (findClass_of_methodNamed hnamed) hkP hinit
  obtain ⟨vm₁, X₁, hstep₁⟩ := X.invokestatic hexec hown hlink hnamed hmethM hstatic hkP hinitP hy (g := g) hg (argsL := argsL) (rest := rest) (hlen _ hsigM) hstack hdg
  rcases hK m meth c ⟨T.setVm vm₁, locs, cells, slots⟩ { g with stack := rest } (.invokestatic index) mk argsL.toArray X₁ hg hsize hdg hW (X₁.named hnamed) (hpre vm₁ X₁.warmed) with ⟨v, B, X', hpost, hsteps⟩ | ⟨q, B, X', hpost, hsteps⟩
  · exact Or.inl ⟨v, vm₁, B, X₁.warmed, X', hpost, fun target h => hstep₁ _ fun acts => by rw [doInvoke_state]; exact hsteps.trans h⟩
  · exact Or.inr ⟨q, vm₁, B, X₁.warmed, X', hpost, hstep₁ _ fun acts => by rw [doInvoke_state]; exact hsteps⟩
theorem vx_callVW (X : Stand p l e R s m args below meth c T locs cells slots) (hexec : p.tables.exec = Jvm.exec) {own C : String} {index : Nat} {y : MethodName} {bytes : ByteArray} {maxL : Nat} {ret : Option FieldType} {hh : List (Nat × Nat × Nat × Nat)}
    (hown : s.vm.findClass own = some m.cls) (hlink : (Cond.methodLink own index y).before args s = true) (hinst : (Cond.instanceMethod y).before args s = true) (hsel : (Cond.selects C y y).before args s = true)
    (hcode : (Cond.codeWith y bytes maxL ret hh).before args s = true) (hy : y.cls ≠ "java/lang/invoke/MethodHandle" ∧ y.cls ≠ "java/lang/invoke/VarHandle")
    {W9 : Nat} {Pre : Pt → Array Value → Prop} {Post : Pt → Array Value → Option Value → Pt → Prop} (hK : Back l R p e below s args y 3 W9 Pre Post)
    {b : Addr} {cellB : Cell} (hcell : T.heap[b]? = some cellB) (hobj : cellB.vm.isStatics = false) (hcls : s.vm.findClass C = some cellB.cls)
    {g : JFrame} (hg : g.method = m) (hsize : g.locals.size = c.maxLocals) {argsL rest : List Value} (hlen : ∀ sig, parseMethodDescriptor y.desc = some sig → argsL.length = sig.parameters.length)
    (hstack : g.stack = argsL.reverse ++ .ref b :: rest) (hW : 2 * g.monitorRoom + (rest.map fun v => v.category).sum ≤ W9) (hdg : decode c.code g.pc = .ok (.invokevirtual index, 3))
    (hpre : ∀ vm₁, s.WarmedH vm₁ → Pre ⟨T.setVm vm₁, locs, cells, slots⟩ (Value.ref b :: argsL).toArray) :
    ∃ (v : Option Value) (vm₁ : Vm) (B : Pt), s.WarmedH vm₁ ∧ Stand p l e R s m args below meth c B.U B.locs B.cells B.slots ∧ Post ⟨T.setVm vm₁, locs, cells, slots⟩ (Value.ref b :: argsL).toArray v B ∧
      ∀ target, Steps p.tables e below (B.U.setTop { g with pc := g.pc + 3, stack := v.toList ++ rest }) target → Steps p.tables e below (T.setTop g) target := by
  obtain ⟨mk, methM, hnamed, hmethM, hstM, habM⟩ := Cond.instanceMethod_spec hinst
  obtain ⟨m8, methM', cM, hn8, hmethM', -, -, -, -, -, -, hsigM⟩ := Cond.codeWith_spec hcode
  cases Option.some.inj (hn8.symm.trans hnamed)
  cases hmethM.symm.trans hmethM'
  obtain ⟨c2, r2, m2, q1, q2, q3, q4, kP, hkP, hkPi⟩ := Cond.selects_spec hsel
  cases hcls.symm.trans q1
  cases (State.methodFound?_of_named hnamed hy).symm.trans q2
  cases hnamed.symm.trans q3
  have hselP : selectMethod e.platform s.vm cellB.cls mk = .method mk := by rw [Launch.admits_selectMethod X.admits]; exact q4
  obtain ⟨vm₁, X₁, hstep₁⟩ := X.invokevirtual hexec hown hlink hnamed hmethM hstM hkP hkPi hy (a := b) (cell := cellB) hcell
    (fun z h => by rw [h] at hobj; cases hobj) hselP hmethM habM hkP hkPi (g := g) hg (argsL := argsL) (rest := rest) (hlen _ hsigM) hstack hdg
  obtain ⟨v, B, X', hpost, hsteps⟩ := hK m meth c ⟨T.setVm vm₁, locs, cells, slots⟩ { g with stack := rest } (.invokevirtual index) mk (Value.ref b :: argsL).toArray X₁ hg hsize hdg hW (X₁.named hnamed) (hpre vm₁ X₁.warmed)
  exact ⟨v, vm₁, B, X₁.warmed, X', hpost, fun target h => hstep₁ _ fun acts => by rw [doInvoke_state]; exact hsteps.trans h⟩
abbrev vx_CVW (R : Room) (s : State) (args : Array Value) (own C : String) (index : Nat) (y : MethodName) (bytes : ByteArray) (maxL : Nat) (ret : Option FieldType) (hh : List (Nat × Nat × Nat × Nat)) (ws : List Cond) (rm : Room) (mc ms n : Nat) : Prop :=
  (rm.cells = mc ∧ rm.slots = ms ∧ rm.frames + 1 ≤ R.frames ∧ 8 + (maxL + 11) + rm.locals ≤ R.locals ∧ (∀ w ∈ ws, ∀ (a' : Array Value) (U : State), s.WarmedH U.vm → w.before a' U = true) ∧ Cond.codeWith y bytes maxL ret hh ∈ ws) ∧
  (Cond.codeWith y bytes maxL ret hh).before args s = true ∧ (Cond.initialized y.cls).before args s = true ∧ (y.cls ≠ "java/lang/invoke/MethodHandle" ∧ y.cls ≠ "java/lang/invoke/VarHandle") ∧
  (∀ sig, parseMethodDescriptor y.desc = some sig → n = sig.parameters.length) ∧ (Cond.methodLink own index y).before args s = true ∧ (Cond.instanceMethod y).before args s = true ∧ (Cond.selects C y y).before args s = true
theorem vx_cwVW {own C : String} {index maxL mc ms : Nat} {y : MethodName} {bytes : ByteArray} {ret : Option FieldType} {hh : List (Nat × Nat × Nat × Nat)} {Ts ws ws' : List Cond} {rm : Room} (n : Nat) (ht : ∀ w ∈ Ts, w.before args s = true) (hT : GoodIn Ts (wsV own index C y ws)) (hw : ws = Cond.codeWith y bytes maxL ret hh :: ws') (hrc : rm.cells = mc) (hrs : rm.slots = ms)
    (hd : y.cls = C ∧ y.cls ≠ "java/lang/invoke/MethodHandle" ∧ y.cls ≠ "java/lang/invoke/VarHandle" ∧ (parseMethodDescriptor y.desc).map (fun d => d.parameters.length) = some n) (hR : rm.frames + 1 ≤ R.frames ∧ 8 + (maxL + 11) + rm.locals ≤ R.locals) :
    vx_CVW R s args own C index y bytes maxL ret hh ws rm mc ms n := by
  obtain ⟨hC, hd⟩ := hd
  subst hC
  have ok : ∀ w ∈ wsV own index y.cls y ws, w.before args s = true := fun w h => ht w (hT w h).1
  have hG : GoodIn Ts ws := fun w h => hT w (by unfold wsV; exact List.mem_append_right _ h)
  have hc : Cond.codeWith y bytes maxL ret hh ∈ ws := by rw [hw]; exact List.mem_cons_self
  refine ⟨⟨hrc, hrs, hR.1, hR.2, pay_in ht hG, hc⟩, ht _ (hG _ hc).1, ok _ (by simp [wsV]), ⟨hd.1, hd.2.1⟩, fun sig h => ?_, ok _ (by simp [wsV]), ok _ (by simp [wsV]), ok _ (by simp [wsV])⟩
  have h2 := hd.2.2
  rw [h] at h2
  exact (Option.some.inj h2).symm
theorem vx_runVW {y : MethodName} {bytes cc : ByteArray} {maxL nL mc ms n index : Nat} {ret : Option FieldType} {hh : List (Nat × Nat × Nat × Nat)} {ws : List Cond} {rm : Room} {Pc : Array Value → State → Prop} {Qc : Array Value → State → Outcome → State → Prop} {free : Addr → Prop} {Ts : List Cond} {own C : String} {b : Addr} {As rest : List Value} {g : JFrame}
    (S : CallFix p m c cc nL s args Ts own) (hM : Met l y ws rm Pc Qc mc ms free) (cw : vx_CVW R s args own C index y bytes maxL ret hh ws rm mc ms n) (hp : PreV s H C b Pc As)
    (hg : g.method = m) (hn : As.length = n) (hsize : g.locals.size = nL) (hstack : g.stack = As.reverse ++ .ref b :: rest) (hW : 2 * g.monitorRoom + (rest.map fun v => v.category).sum ≤ 8) (hdg : decode cc g.pc = .ok (.invokevirtual index, 3)) (hf : cells + mc ≤ R.cells ∧ slots + ms ≤ R.slots) :
    va_Run p l e R s m args below meth c H locs cells slots mc ms g rest (Qc (Value.ref b :: As).toArray) free := by
  obtain ⟨⟨hrc, hrs, hfr, hlo, hws, hcw⟩, hcode, hini, hy, hlen, hl, hin, hse⟩ := cw
  have hK : Back l R p e below s args y 3 8 (PreOf R mc ms Pc) (PostOf Qc mc ms free) := va_backW (hh := hh) (bytes := bytes) (maxL := maxL) (ret := ret) hM hp.1 hrc hrs hfr hlo hws hcw (fun a' U hW => word_at hW (Or.inl (by first | rfl | simp [Cond.onTables, Cond.keeps, Cond.steady])) hini)
  obtain ⟨hx, hb, hml, ho, -⟩ := S
  obtain ⟨-, ⟨cellB, hcB, hoB, hclB⟩, hPc⟩ := hp
  intro T hT X
  obtain ⟨v, vm₁, ⟨U', l2, c2, s2⟩, hW₁, X', ⟨g', mk, t, L, e1, e2, hq, h1, hL, h2, h3⟩, st⟩ := vx_callVW X hx (C := C) (hh := hh) (bytes := bytes) (maxL := maxL) (ret := ret) ho hl hin hse hcode hy hK (by rw [hT]; exact hcB) hoB hclB hg (hsize.trans hml.symm) (argsL := As) (rest := rest) (fun sig h => hn.trans (hlen sig h)) hstack hW (by rw [hb]; exact hdg)
    (fun vm₁ hW₁ => ⟨hf.1, hf.2, hPc (T.setVm vm₁) hT hW₁⟩)
  dsimp only [Pt.U, Pt.locs, Pt.cells, Pt.slots] at X' e1 e2 h1 h2 h3 st
  subst h1; subst h2; subst h3
  exact ⟨v, (T.setVm vm₁).calling g' mk (Value.ref b :: As).toArray, t, U', L, hT, X', hL, e1, e2, hq, st⟩
section
variable {y : MethodName} {bytes cc : ByteArray} {maxL nL mc ms n index : Nat} {ret : Option FieldType} {ws : List Cond} {rm : Room} {Pc : Array Value → State → Prop} {Qc : Array Value → State → Outcome → State → Prop} {XC : String → State → State → Prop} {free : Addr → Prop} {Ts : List Cond} {own C : String} {b : Addr} {As rest : List Value} {g : JFrame}
theorem vx_runVX {hh : List (Nat × Nat × Nat × Nat)} (S : CallFix p m c cc nL s args Ts own) (hM : vx_Met l y ws rm Pc Qc XC mc ms free) (cw : vx_CVW R s args own C index y bytes maxL ret hh ws rm mc ms n) (hp : PreV s H C b Pc As)
    (hg : g.method = m) (hn : As.length = n) (hsize : g.locals.size = nL) (hstack : g.stack = As.reverse ++ .ref b :: rest) (hW : 2 * g.monitorRoom + (rest.map fun v => v.category).sum ≤ 8) (hdg : decode cc g.pc = .ok (.invokevirtual index, 3)) (hf : cells + mc ≤ R.cells ∧ slots + ms ≤ R.slots) :
    vx_Run p l e R s m args below meth c H locs cells slots mc ms g rest (Qc (Value.ref b :: As).toArray) XC free := by
  obtain ⟨⟨hrc, hrs, hfr, hlo, hws, hcw⟩, hcode, hini, hy, hlen, hl, hin, hse⟩ := cw
  have hK : vx_Back l R p e below s args y 3 8 (PreOf R mc ms Pc) (PostOf Qc mc ms free) (vx_Post XC mc ms free) := vx_backW (hh := hh) (bytes := bytes) (maxL := maxL) (ret := ret) hM hp.1 hrc hrs hfr hlo hws hcw (fun a' U hW => word_at hW (Or.inl (by first | rfl | simp [Cond.onTables, Cond.keeps, Cond.steady])) hini)
  obtain ⟨hx, hb, hml, ho, -⟩ := S
  obtain ⟨-, ⟨cellB, hcB, hoB, hclB⟩, hPc⟩ := hp
  intro T hT X
  rcases vx_callVX X hx (C := C) (hh := hh) (bytes := bytes) (maxL := maxL) (ret := ret) ho hl hin hse hcode hy hK (by rw [hT]; exact hcB) hoB hclB hg (hsize.trans hml.symm) (argsL := As) (rest := rest) (fun sig h => hn.trans (hlen sig h)) hstack hW (by rw [hb]; exact hdg)
    (fun vm₁ hW₁ => ⟨hf.1, hf.2, hPc (T.setVm vm₁) hT hW₁⟩) with ⟨v, vm₁, ⟨U', l2, c2, s2⟩, hW₁, X', ⟨g', mk, t, L, e1, e2, hq, h1, hL, h2, h3⟩, st⟩ | ⟨q, vm₁, ⟨U', l2, c2, s2⟩, hW₁, X', ⟨g', mk, t, L, E, ce, e1, e2, hq, hce, hcv, hcl, h1, hL, h2, h3⟩, st⟩
  · dsimp only [Pt.U, Pt.locs, Pt.cells, Pt.slots] at X' e1 e2 h1 h2 h3 st
    subst h1; subst h2; subst h3
    exact Or.inl ⟨v, (T.setVm vm₁).calling g' mk (Value.ref b :: As).toArray, t, U', L, hT, X', hL, e1, e2, hq, st⟩
  · dsimp only [Pt.U, Pt.locs, Pt.cells, Pt.slots] at X' e1 e2 h1 h2 h3 st hcl
    subst h1; subst h2; subst h3
    exact Or.inr ⟨q, (T.setVm vm₁).calling g' mk (Value.ref b :: As).toArray, t, U', L, E, ce, hT, X', hL, e1, e2, hq, hce, hcv, vx_cls hW₁ hcl, st⟩
theorem vx_runSX {hh : List (Nat × Nat × Nat × Nat)} (S : CallFix p m c cc nL s args Ts own) (hM : vx_Met l y ws rm Pc Qc XC mc ms free) (cw : vx_CSW R s args own index y bytes maxL ret hh ws rm mc ms n) (hp : PreS s H Pc As)
    (hg : g.method = m) (hn : As.length = n) (hsize : g.locals.size = nL) (hstack : g.stack = As.reverse ++ rest) (hW : 2 * g.monitorRoom + (rest.map fun v => v.category).sum ≤ 8) (hdg : decode cc g.pc = .ok (.invokestatic index, 3)) (hf : cells + mc ≤ R.cells ∧ slots + ms ≤ R.slots) :
    vx_Run p l e R s m args below meth c H locs cells slots mc ms g rest (Qc As.toArray) XC free := by
  obtain ⟨⟨hrc, hrs, hfr, hlo, hws, hcw⟩, hcode, hini, hy, hlen, hl, hstt⟩ := cw
  have hK : vx_Back l R p e below s args y 3 8 (PreOf R mc ms Pc) (PostOf Qc mc ms free) (vx_Post XC mc ms free) := vx_backW (hh := hh) (bytes := bytes) (maxL := maxL) (ret := ret) hM hp.1 hrc hrs hfr hlo hws hcw (fun a' U hW => word_at hW (Or.inl (by first | rfl | simp [Cond.onTables, Cond.keeps, Cond.steady])) hini)
  obtain ⟨hx, hb, hml, ho, -⟩ := S
  intro T hT X
  rcases vx_callSX X hx (hh := hh) (bytes := bytes) (maxL := maxL) (ret := ret) ho hl hstt hini hcode hy hK hg (hsize.trans hml.symm) (argsL := As) (rest := rest) (fun sig h => hn.trans (hlen sig h)) hstack hW (by rw [hb]; exact hdg)
    (fun vm₁ hW₁ => ⟨hf.1, hf.2, hp.2 (T.setVm vm₁) hT hW₁⟩) with ⟨v, vm₁, ⟨U', l2, c2, s2⟩, hW₁, X', ⟨g', mk, t, L, e1, e2, hq, h1, hL, h2, h3⟩, st⟩ | ⟨q, vm₁, ⟨U', l2, c2, s2⟩, hW₁, X', ⟨g', mk, t, L, E, ce, e1, e2, hq, hce, hcv, hcl, h1, hL, h2, h3⟩, st⟩
  · dsimp only [Pt.U, Pt.locs, Pt.cells, Pt.slots] at X' e1 e2 h1 h2 h3 st
    subst h1; subst h2; subst h3
    exact Or.inl ⟨v, (T.setVm vm₁).calling g' mk As.toArray, t, U', L, hT, X', hL, e1, e2, hq, st⟩
  · dsimp only [Pt.U, Pt.locs, Pt.cells, Pt.slots] at X' e1 e2 h1 h2 h3 st hcl
    subst h1; subst h2; subst h3
    exact Or.inr ⟨q, (T.setVm vm₁).calling g' mk As.toArray, t, U', L, E, ce, hT, X', hL, e1, e2, hq, hce, hcv, vx_cls hW₁ hcl, st⟩
end
end VXH
theorem vx_ofWH {l : Launch} {y : MethodName} {ws ws' : List Cond} {rm : Room} {Pc : Array Value → State → Prop} {Qc : Array Value → State → Outcome → State → Prop} {XC : String → State → State → Prop} {mc ms : Nat} {free : Addr → Prop} {cc : ByteArray} {maxL : Nat} {ret : Option FieldType} {hh : List (Nat × Nat × Nat × Nat)}
    (hy : plainName y.cls = true) (hw : ws = Cond.codeWith y cc maxL ret hh :: ws')
    (body : ∀ p e s m args below meth c s₁, BodyLoose p l y (headSpec ws rm) cc maxL ret e s m args below meth c s₁ → c.maxLocals = maxL → Pc args s →
      W p l e (headSpec ws rm).room s m args below meth c s.heap [] 0 0 (vx_MQ below Qc XC args s mc ms free) (entryFrame m args maxL)) : vx_Met l y ws rm Pc Qc XC mc ms free := by
  refine MetFree.of_bodyS (code := cc) (maxLocals := maxL) (ret := ret) hy ?_ ?_
  · intro args s m h hn
    obtain ⟨m9, meth, c, hn9, h1, h2, h3, h4, -, h5, h6, -⟩ := Cond.codeWith_spec (atoms_spec (ws := ws) h _ (by rw [hw]; exact List.mem_cons_self))
    cases hn.symm.trans hn9
    exact ⟨meth, c, h1, h2, h3, h4, h5, h6⟩
  · intro p e s m args below meth c s₁ B hml hP _
    have hh0 : s₁.heap = s.heap := by rw [B.state]; rfl
    obtain ⟨t, a1, o, b1, b2, b3⟩ := body p e s m args below meth c s₁ B hml hP s₁ hh0 (Stand.of_body B)
    exact ⟨t, o, a1, b1, b2, b3⟩
/-! ===== END ===== -/
end
section
/-! the machine catches: the rows of a method's table are tried one by one; a row's class is linked as it is tried (own rows: the library's law of this lies where a round doesn't reach) -/
section XC
def xc_ok (s : State) (args : Array Value) (own E : String) (pc : Nat) : List ExceptionTableEntry → Nat → Prop
  | [], _ => False
  | x :: t, h => (covers x pc = false ∧ xc_ok s args own E pc t h) ∨ (covers x pc = true ∧ x.catchType ≠ 0 ∧ ∃ nm : String, (Cond.classLink own x.catchType nm).before args s = true ∧ (((Cond.castable E nm).before args s = true ∧ x.handlerPc = h) ∨ (va_Nc E nm s ∧ xc_ok s args own E pc t h)))
theorem xc_row {Q : Handler → Pre} {E : CtlPost} {e : Env} {d : Bool} {acts : List Action} {S : State} {f : JFrame} {a : Addr} {x : ExceptionTableEntry} {t : List ExceptionTableEntry} {k : ClassId} {cell : Cell} (hx : covers x f.pc = true) (h0 : x.catchType ≠ 0)
    (hl : S.vm.ClassLinks e.platform f.method.cls x.catchType k) (hc : S.heap[a]? = some cell) (ho : ∀ z, cell.vm ≠ .statics z) (h1 : ∃ z, S.vm.classes[cell.cls]? = some z) (h2 : ∃ z, S.vm.classes[k]? = some z) :
    (S.vm.assignable cell.cls k = true → (wp (findHandler.go f a (x :: t)) Q E e d acts S ↔ Q (.found x.handlerPc) d acts (S.setVm (S.vm.noted f.method.cls x.catchType (.cls k))))) ∧
    (S.vm.assignable cell.cls k = false → (wp (findHandler.go f a (x :: t)) Q E e d acts S ↔ wp (findHandler.go f a t) Q E e d acts (S.setVm (S.vm.noted f.method.cls x.catchType (.cls k))))) := by
  have hal : S.vm.Alike (S.vm.noted f.method.cls x.catchType (.cls k)) := (Vm.Alike.refl S.vm).noted _ _ _
  obtain ⟨z1, hz1⟩ := h1
  obtain ⟨z2, hz2⟩ := h2
  obtain ⟨y1, hy1, -⟩ := hal.2.2 _ _ hz1
  obtain ⟨y2, hy2, -⟩ := hal.2.2 _ _ hz2
  obtain ⟨ha, ht⟩ := (resolveClass_links e.toSetting hl).op (op := VmOp.resolveClass f.method.cls x.catchType) rfl
  simp only [covers] at hx
  refine ⟨fun hg => ?_, fun hg => ?_⟩ <;> rw [← hal.assignable] at hg <;> simp [findHandler.go, hx, h0, ha, ht, hc, ho, hy1, hy2, hg, VmOp.dirties, VmOp.acts]
theorem xc_scan {e : Env} {s : State} {args : Array Value} {own E9 : String} {f : JFrame} {a : Addr} {cell : Cell} {h : Nat} (hpl : e.platform.magicAccessors = ({} : Platform).magicAccessors) (hown : s.vm.findClass own = some f.method.cls) (hE : s.vm.findClass E9 = some cell.cls) (ho : ∀ z, cell.vm ≠ .statics z) :
    ∀ (rows : List ExceptionTableEntry) (S : State), s.WarmedH S.vm → S.heap[a]? = some cell → xc_ok s args own E9 f.pc rows h →
      ∃ vm', s.WarmedH vm' ∧ ∀ (Q : Handler → Pre) (E : CtlPost) (d : Bool) (acts : List Action), wp (findHandler.go f a rows) Q E e d acts S ↔ Q (.found h) d acts (S.setVm vm') := by
  intro rows
  induction rows with
  | nil => intro S _ _ hok; exact hok.elim
  | cons x t ih =>
    intro S hW hc hok
    rcases hok with ⟨hx, hok⟩ | ⟨hx, h0, nm, hlk, hrest⟩
    · obtain ⟨vm', hW', hq⟩ := ih S hW hc hok
      exact ⟨vm', hW', fun Q E d acts => by rw [W.findHandler_go_skip hx]; exact hq Q E d acts⟩
    · obtain ⟨k, hk, hl⟩ := Cond.classLink_spec hown hlk e.platform hpl
      obtain ⟨dk, _, _, kt, hd, _, _, _, _, hkt, _, hopen⟩ := hl.here
      obtain ⟨kc, hkc, -⟩ := Vm.findClass_spec hE
      obtain ⟨y1, hy1, -⟩ := hW.alike.2.2 _ _ hkc
      obtain ⟨y2, hy2, -⟩ := hW.alike.2.2 _ _ hkt
      have hW2 := hW.noted hd hopen (State.rightAt_cls hl)
      rcases hrest with ⟨hcast, rfl⟩ | ⟨⟨c1, c2, e1, e2, e3⟩, hok⟩
      · obtain ⟨c3, c4, g3, g4, hasg⟩ := Cond.castable_spec hcast
        cases Option.some.inj (g3.symm.trans hE)
        cases Option.some.inj (g4.symm.trans hk)
        exact ⟨_, hW2, fun Q E d acts => (xc_row hx h0 (hW.classLinks hl) hc ho ⟨y1, hy1⟩ ⟨y2, hy2⟩).1 (by rw [hW.alike.assignable]; exact hasg)⟩
      · cases Option.some.inj (e1.symm.trans hE)
        cases Option.some.inj (e2.symm.trans hk)
        obtain ⟨vm', hW', hq⟩ := ih (S.setVm (S.vm.noted f.method.cls x.catchType (.cls k))) hW2 hc hok
        exact ⟨vm', hW', fun Q E d acts => ((xc_row hx h0 (hW.classLinks hl) hc ho ⟨y1, hy1⟩ ⟨y2, hy2⟩).2 (by rw [hW.alike.assignable]; exact e3)).trans (hq Q E d acts)⟩
variable {p : Program} {l : Launch} {e : Env} {R : Room} {s : State} {m : MethodId} {args : Array Value} {below : List Frame} {meth : Method} {c : Code} {H : Heap} {locs : List Loc} {cells slots : Nat} {Q : State → Prop}
/-- q, of the class E, is thrown at pc, and this method's table takes it: on at the handler -/
theorem xc_catch {own E : String} {pc h : Nat} {ls : Array Slot} {rest : List Value} {ce : Cell} {q : Addr} (hown : s.vm.findClass own = some m.cls) (hok : xc_ok s args own E pc c.exceptionTable.toList h) (hcell : H[q]? = some ce) (hv : ce.vm = .none) (hcl : s.vm.findClass E = some ce.cls)
    (kk : W p l e R s m args below meth c H locs cells slots Q (F0 m h ls [.ref q])) : vx_W p l e R s m args below meth c H locs cells slots Q (F0 m pc ls rest) q := by
  intro T hT X
  have hpl : e.platform.magicAccessors = ({} : Platform).magicAccessors := by rw [X.admits.platform]
  obtain ⟨vm', hW', hq⟩ := xc_scan (e := e) (f := F0 m pc ls rest) (a := q) hpl hown hcl (fun z hz => by rw [hv] at hz; cases hz) c.exceptionTable.toList ((T.setTop (F0 m pc ls rest)).pushFrame (.throwing q)) (by rw [throwing_vm]; exact X.warmed) (by rw [throwing_heap, hT]; exact hcell) hok
  obtain ⟨t, a1, b1⟩ := kk (T.setVm vm') hT (X.noted hW')
  refine ⟨t, ?_, b1⟩
  obtain ⟨hgo, hw⟩ := At.throwing (g := F0 m pc ls rest) X.here q
  refine Steps.head hgo hw ?_
  rw [stepThread_throwing (frames_entered X.here.top _)]
  obtain ⟨g₀, hg⟩ := Option.isSome_iff_exists.mp X.here.top
  obtain ⟨r, hr⟩ := State.topJava?_eq_some.mp hg
  have hr' : (T.setVm vm').frames = .java g₀ :: r := hr
  have hfind : ∀ (Q : Handler → Pre) (E : CtlPost) (d : Bool) (acts : List Action), wp (findHandler (F0 m pc ls rest) q) Q E e d acts ((T.setTop (F0 m pc ls rest)).pushFrame (.throwing q)) ↔ Q (.found h) d acts (((T.setTop (F0 m pc ls rest)).pushFrame (.throwing q)).setVm vm') := fun Q E d acts => by
    rw [W.findHandler_eq (f := F0 m pc ls rest) (by rw [throwing_vm]; exact X.method') X.code]
    exact hq Q E d acts
  have key : ∀ (u : State) (F : List Frame), (u.setFrames F).setVm vm' = (u.setVm vm').setFrames F := fun _ _ => rfl
  have hst : (stepThrowing e ((T.setTop (F0 m pc ls rest)).pushFrame (.throwing q)) q (.java (F0 m pc ls rest) :: T.frames.tail)).1 = (((T.setTop (F0 m pc ls rest)).pushFrame (.throwing q)).setVm vm').setFrames (.java (F0 m h ls [.ref q]) :: T.frames.tail) := by
    simp only [stepThrowing, searchFrame, vmDo]
    generalize hres : Sem.go _ e false [] ((T.setTop (F0 m pc ls rest)).pushFrame (.throwing q)) = res
    obtain ⟨as, rfl, ha⟩ := Sem.eq_ok_of hres (a := Handler.found h) (s' := ((T.setTop (F0 m pc ls rest)).pushFrame (.throwing q)).setVm vm') (acts' := []) (by simp [hfind])
    rfl
  rw [State.setTop_of_frames _ hr'] at a1
  rw [hst, hr, List.tail_cons, State.pushFrame, State.setTop_of_frames _ hr, key, key, State.setFrames_setFrames, State.setFrames_setFrames]
  exact a1
end XC
end
section
/-! ===== BEGIN printed: names, fields, word lists, decode rows ===== -/
def RX0 : String := "GameArbiter"
def TX0 : u_T := fun k => match k with
  | 0 => ("GameArbiter", "given", "[J", true)
  | 1 => ("GameArbiter", "told", "[J", true)
  | 2 => ("GameArbiter", "facts", "[I", true)
  | _ => ("GameArbiter", "positions", "I", false)
def tyX0 : Nat → FieldType := fun k => match k with
  | 0 => .array .long
  | 1 => .array .long
  | 2 => .array .int
  | _ => .int
abbrev wsX00 : List Cond := u_ws RX0 TX0 4
theorem nmX0 : ∀ a, a < 4 → ∀ b, b < 4 → a ≠ b → (TX0 a).2.1 ≠ (TX0 b).2.1 := by decide +kernel
theorem tyX0_ok : ∀ k, k < 4 → parseFieldDescriptor (TX0 k).2.2.1 = some (tyX0 k) := by decide +kernel
abbrev cX0_init : ByteArray := prog_1_method_1_code
def yX0_init : MethodName := ⟨RX0, "<init>", "()V"⟩
abbrev cX0_squares : ByteArray := prog_1_method_2_code
def yX0_squares : MethodName := ⟨RX0, "squares", "(IJ)Z"⟩
abbrev cX0_begin : ByteArray := prog_1_method_3_code
def yX0_begin : MethodName := ⟨RX0, "begin", "(IIZI)I"⟩
abbrev cX0_next : ByteArray := prog_1_method_4_code
def yX0_next : MethodName := ⟨RX0, "next", "(IIZZ)I"⟩
abbrev cX0_back : ByteArray := prog_1_method_5_code
def yX0_back : MethodName := ⟨RX0, "back", "()Z"⟩
abbrev cX0_verdict : ByteArray := prog_1_method_6_code
def yX0_verdict : MethodName := ⟨RX0, "verdict", "()I"⟩
abbrev cX0_of : ByteArray := prog_1_method_7_code
def yX0_of : MethodName := ⟨RX0, "of", "(II)I"⟩
abbrev cX0_men : ByteArray := prog_1_method_8_code
def yX0_men : MethodName := ⟨RX0, "men", "(II)J"⟩
abbrev cX0_times : ByteArray := prog_1_method_9_code
def yX0_times : MethodName := ⟨RX0, "times", "(I)I"⟩
abbrev cX0_look : ByteArray := prog_1_method_10_code
def yX0_look : MethodName := ⟨RX0, "look", "(I)I"⟩
abbrev cX0_isPart : ByteArray := prog_1_method_11_code
def yX0_isPart : MethodName := ⟨RX0, "isPart", "(I)Z"⟩
abbrev cX0_isMoves : ByteArray := prog_1_method_12_code
def yX0_isMoves : MethodName := ⟨RX0, "isMoves", "(I)Z"⟩
abbrev cX0_isClock : ByteArray := prog_1_method_13_code
def yX0_isClock : MethodName := ⟨RX0, "isClock", "(I)Z"⟩
abbrev cX0_isState : ByteArray := prog_1_method_14_code
def yX0_isState : MethodName := ⟨RX0, "isState", "(I)Z"⟩
abbrev cX0_isPosition : ByteArray := prog_1_method_15_code
def yX0_isPosition : MethodName := ⟨RX0, "isPosition", "(I)Z"⟩
abbrev cX0_areMen : ByteArray := prog_1_method_16_code
def yX0_areMen : MethodName := ⟨RX0, "areMen", "(J)Z"⟩
abbrev cX0_manOfPart : ByteArray := prog_1_method_17_code
def yX0_manOfPart : MethodName := ⟨RX0, "manOfPart", "(JI)I"⟩
abbrev cX0_takesAnother : ByteArray := prog_1_method_18_code
def yX0_takesAnother : MethodName := ⟨RX0, "takesAnother", "()Z"⟩
abbrev cX0_factOf : ByteArray := prog_1_method_19_code
def yX0_factOf : MethodName := ⟨RX0, "factOf", "(II)I"⟩
abbrev cX0_append : ByteArray := prog_1_method_20_code
def yX0_append : MethodName := ⟨RX0, "append", "(IIZI)I"⟩
abbrev cX0_lastSame : ByteArray := prog_1_method_21_code
def yX0_lastSame : MethodName := ⟨RX0, "lastSame", "(I)I"⟩
abbrev cX0_hasGivenSquares : ByteArray := prog_1_method_22_code
def yX0_hasGivenSquares : MethodName := ⟨RX0, "hasGivenSquares", "(I)Z"⟩
abbrev cX0_countUpTo : ByteArray := prog_1_method_23_code
def yX0_countUpTo : MethodName := ⟨RX0, "countUpTo", "(I)I"⟩
abbrev cX0_judge : ByteArray := prog_1_method_24_code
def yX0_judge : MethodName := ⟨RX0, "judge", "(IZZII)I"⟩
abbrev cX0_isGivenDead : ByteArray := prog_1_method_25_code
def yX0_isGivenDead : MethodName := ⟨RX0, "isGivenDead", "(I)Z"⟩
abbrev cX0_countGiven : ByteArray := prog_1_method_26_code
def yX0_countGiven : MethodName := ⟨RX0, "countGiven", "(I)I"⟩
abbrev cX0_firstSquareGiven : ByteArray := prog_1_method_27_code
def yX0_firstSquareGiven : MethodName := ⟨RX0, "firstSquareGiven", "(I)I"⟩
abbrev cX0_manGiven : ByteArray := prog_1_method_28_code
def yX0_manGiven : MethodName := ⟨RX0, "manGiven", "(I)I"⟩
abbrev cX0_colourOf : ByteArray := prog_1_method_29_code
def yX0_colourOf : MethodName := ⟨RX0, "colourOf", "(I)I"⟩
abbrev cX0_differentPositions : ByteArray := prog_1_method_30_code
def yX0_differentPositions : MethodName := ⟨RX0, "differentPositions", "()I"⟩
abbrev cX0_greatest : ByteArray := prog_1_method_31_code
def yX0_greatest : MethodName := ⟨RX0, "greatest", "(I)I"⟩
def RX1 : String := "GameArbiterModel"
def TX1 : u_T := fun k => match k with
  | 0 => ("GameArbiterModel", "thrown", "I", false)
  | 1 => ("GameArbiterModel", "next", "[I", true)
  | 2 => ("GameArbiterModel", "many", "I", false)
  | 3 => ("GameArbiterModel", "men", "[I", true)
  | 4 => ("GameArbiterModel", "states", "[I", true)
  | 5 => ("GameArbiterModel", "clocks", "[I", true)
  | _ => ("GameArbiterModel", "verdicts", "[I", true)
def tyX1 : Nat → FieldType := fun k => match k with
  | 0 => .int
  | 1 => .array .int
  | 2 => .int
  | 3 => .array .int
  | 4 => .array .int
  | 5 => .array .int
  | _ => .array .int
abbrev wsX10 : List Cond := u_ws RX1 TX1 7
theorem nmX1 : ∀ a, a < 7 → ∀ b, b < 7 → a ≠ b → (TX1 a).2.1 ≠ (TX1 b).2.1 := by decide +kernel
theorem tyX1_ok : ∀ k, k < 7 → parseFieldDescriptor (TX1 k).2.2.1 = some (tyX1 k) := by decide +kernel
abbrev cX1_init : ByteArray := prog_3_method_1_code
def yX1_init : MethodName := ⟨RX1, "<init>", "()V"⟩
abbrev cX1_thrown : ByteArray := prog_3_method_2_code
def yX1_thrown : MethodName := ⟨RX1, "thrown", "()I"⟩
abbrev cX1_squares : ByteArray := prog_3_method_3_code
def yX1_squares : MethodName := ⟨RX1, "squares", "(IJ)Z"⟩
abbrev cX1_isState : ByteArray := prog_3_method_4_code
def yX1_isState : MethodName := ⟨RX1, "isState", "(I)Z"⟩
abbrev cX1_isSame : ByteArray := prog_3_method_5_code
def yX1_isSame : MethodName := ⟨RX1, "isSame", "(II)Z"⟩
abbrev cX1_isNext : ByteArray := prog_3_method_6_code
def yX1_isNext : MethodName := ⟨RX1, "isNext", "(II)Z"⟩
abbrev cX1_countOf : ByteArray := prog_3_method_7_code
def yX1_countOf : MethodName := ⟨RX1, "countOf", "(I)I"⟩
abbrev cX1_howMany : ByteArray := prog_3_method_8_code
def yX1_howMany : MethodName := ⟨RX1, "howMany", "(II)I"⟩
abbrev cX1_colour : ByteArray := prog_3_method_9_code
def yX1_colour : MethodName := ⟨RX1, "colour", "(II)I"⟩
abbrev cX1_isDead : ByteArray := prog_3_method_10_code
def yX1_isDead : MethodName := ⟨RX1, "isDead", "(I)Z"⟩
abbrev cX1_verdictOf : ByteArray := prog_3_method_11_code
def yX1_verdictOf : MethodName := ⟨RX1, "verdictOf", "(IIZ)I"⟩
abbrev cX1_add : ByteArray := prog_3_method_12_code
def yX1_add : MethodName := ⟨RX1, "add", "(IIZI)I"⟩
abbrev cX1_begin : ByteArray := prog_3_method_13_code
def yX1_begin : MethodName := ⟨RX1, "begin", "(IIZI)I"⟩
abbrev cX1_next : ByteArray := prog_3_method_14_code
def yX1_next : MethodName := ⟨RX1, "next", "(IIZZ)I"⟩
abbrev cX1_back : ByteArray := prog_3_method_15_code
def yX1_back : MethodName := ⟨RX1, "back", "()Z"⟩
abbrev cX1_verdict : ByteArray := prog_3_method_16_code
def yX1_verdict : MethodName := ⟨RX1, "verdict", "()I"⟩
abbrev cX1_isIn : ByteArray := prog_3_method_17_code
def yX1_isIn : MethodName := ⟨RX1, "isIn", "(I)Z"⟩
abbrev cX1_of : ByteArray := prog_3_method_18_code
def yX1_of : MethodName := ⟨RX1, "of", "(II)I"⟩
abbrev cX1_men : ByteArray := prog_3_method_19_code
def yX1_men : MethodName := ⟨RX1, "men", "(II)J"⟩
abbrev cX1_times : ByteArray := prog_3_method_20_code
def yX1_times : MethodName := ⟨RX1, "times", "(I)I"⟩
abbrev cX1_look : ByteArray := prog_3_method_21_code
def yX1_look : MethodName := ⟨RX1, "look", "(I)I"⟩
def RJ9 : String := "java/lang/Math"
def TJ9 : u_T := fun k => match k with
  | _ => ("", "", "", false)
def tyJ9 : Nat → FieldType := fun k => match k with
  | _ => .int
abbrev wsJ90 : List Cond := u_ws RJ9 TJ9 0
theorem nmJ9 : ∀ a, a < 0 → ∀ b, b < 0 → a ≠ b → (TJ9 a).2.1 ≠ (TJ9 b).2.1 := by decide +kernel
theorem tyJ9_ok : ∀ k, k < 0 → parseFieldDescriptor (TJ9 k).2.2.1 = some (tyJ9 k) := by decide +kernel
abbrev cJ9_max_7cf53 : ByteArray := prog_8_method_65_code
def yJ9_max_7cf53 : MethodName := ⟨RJ9, "max", "(II)I"⟩
def RJ0 : String := "java/lang/String"
def TJ0 : u_T := fun k => match k with
  | _ => ("", "", "", false)
def tyJ0 : Nat → FieldType := fun k => match k with
  | _ => .int
abbrev wsJ00 : List Cond := u_ws RJ0 TJ0 0
theorem nmJ0 : ∀ a, a < 0 → ∀ b, b < 0 → a ≠ b → (TJ0 a).2.1 ≠ (TJ0 b).2.1 := by decide +kernel
theorem tyJ0_ok : ∀ k, k < 0 → parseFieldDescriptor (TJ0 k).2.2.1 = some (tyJ0 k) := by decide +kernel
def RJ10 : String := "java/lang/System"
def TJ10 : u_T := fun k => match k with
  | _ => ("", "", "", false)
def tyJ10 : Nat → FieldType := fun k => match k with
  | _ => .int
abbrev wsJ100 : List Cond := u_ws RJ10 TJ10 0
theorem nmJ10 : ∀ a, a < 0 → ∀ b, b < 0 → a ≠ b → (TJ10 a).2.1 ≠ (TJ10 b).2.1 := by decide +kernel
theorem tyJ10_ok : ∀ k, k < 0 → parseFieldDescriptor (TJ10 k).2.2.1 = some (tyJ10 k) := by decide +kernel
def RL : String := "GameArbiterLaw"
abbrev cL_begin : ByteArray := method_3_code
def yL_begin : MethodName := ⟨RL, "begin", "(LGameArbiter;IIZI[J)I"⟩
abbrev cL_next : ByteArray := method_4_code
def yL_next : MethodName := ⟨RL, "next", "(LGameArbiter;IIZZ[J)I"⟩
abbrev cL_of : ByteArray := method_5_code
def yL_of : MethodName := ⟨RL, "of", "(LGameArbiter;II[J)I"⟩
abbrev cL_men : ByteArray := method_6_code
def yL_men : MethodName := ⟨RL, "men", "(LGameArbiter;II[J)I"⟩
abbrev cL_times : ByteArray := method_7_code
def yL_times : MethodName := ⟨RL, "times", "(LGameArbiter;I[J)I"⟩
abbrev cL_law : ByteArray := code
def yL_law : MethodName := ⟨RL, "law", "([I)Z"⟩
def wsX0_init : List Cond := .code yX0_init cX0_init 1 none :: ([.methodLink RX0 1 objectInit, .instanceMethod objectInit, .code objectInit ⟨#[0xb1]⟩ 1 none, .arrayClass .long, .fieldLink RX0 9 "GameArbiter" "given" "[J", .fieldLink RX0 13 "GameArbiter" "told" "[J", .arrayClass .int, .fieldLink RX0 16 "GameArbiter" "facts" "[I", .fieldLink RX0 20 "GameArbiter" "positions" "I"] ++ wsX00)
def wsX0_isPart : List Cond := .code yX0_isPart cX0_isPart 1 (some .boolean) :: ([])
def wsX0_manOfPart : List Cond := .code yX0_manOfPart cX0_manOfPart 4 (some .int) :: ([])
def wsX0_areMen : List Cond := .code yX0_areMen cX0_areMen 3 (some .boolean) :: ([.methodLink RX0 93 yX0_manOfPart, .static yX0_manOfPart, .initialized RX0, .code yX0_manOfPart cX0_manOfPart 4 (some .int)])
def wsX0_squares : List Cond := .code yX0_squares cX0_squares 4 (some .boolean) :: ([.fieldLink RX0 9 "GameArbiter" "given" "[J", .methodLink RX0 24 yX0_isPart, .static yX0_isPart, .initialized RX0, .code yX0_isPart cX0_isPart 1 (some .boolean), .methodLink RX0 28 yX0_areMen, .static yX0_areMen, .code yX0_areMen cX0_areMen 3 (some .boolean), .methodLink RX0 93 yX0_manOfPart, .static yX0_manOfPart, .code yX0_manOfPart cX0_manOfPart 4 (some .int)] ++ wsX00)
def wsX0_isState : List Cond := .code yX0_isState cX0_isState 2 (some .boolean) :: ([])
def wsX0_isMoves : List Cond := .code yX0_isMoves cX0_isMoves 1 (some .boolean) :: ([])
def wsX0_isClock : List Cond := .code yX0_isClock cX0_isClock 1 (some .boolean) :: ([])
def wsX0_factOf : List Cond := .code yX0_factOf cX0_factOf 3 (some .int) :: ([.fieldLink RX0 16 "GameArbiter" "facts" "[I"] ++ wsX00)
def wsX0_hasGivenSquares : List Cond := .code yX0_hasGivenSquares cX0_hasGivenSquares 3 (some .boolean) :: ([.fieldLink RX0 13 "GameArbiter" "told" "[J", .fieldLink RX0 9 "GameArbiter" "given" "[J"] ++ wsX00)
def wsX0_lastSame : List Cond := .code yX0_lastSame cX0_lastSame 3 (some .int) :: ([.fieldLink RX0 20 "GameArbiter" "positions" "I", .methodLink RX0 63 yX0_factOf, .instanceMethod yX0_factOf, .selects RX0 yX0_factOf yX0_factOf, .initialized RX0, .code yX0_factOf cX0_factOf 3 (some .int), .fieldLink RX0 16 "GameArbiter" "facts" "[I", .methodLink RX0 113 yX0_hasGivenSquares, .instanceMethod yX0_hasGivenSquares, .selects RX0 yX0_hasGivenSquares yX0_hasGivenSquares, .code yX0_hasGivenSquares cX0_hasGivenSquares 3 (some .boolean), .fieldLink RX0 13 "GameArbiter" "told" "[J", .fieldLink RX0 9 "GameArbiter" "given" "[J"] ++ wsX00)
def wsX0_isPosition : List Cond := .code yX0_isPosition cX0_isPosition 2 (some .boolean) :: ([.fieldLink RX0 20 "GameArbiter" "positions" "I"] ++ wsX00)
def wsX0_countUpTo : List Cond := .code yX0_countUpTo cX0_countUpTo 2 (some .int) :: ([.methodLink RX0 67 yX0_isPosition, .instanceMethod yX0_isPosition, .selects RX0 yX0_isPosition yX0_isPosition, .initialized RX0, .code yX0_isPosition cX0_isPosition 2 (some .boolean), .fieldLink RX0 20 "GameArbiter" "positions" "I", .methodLink RX0 63 yX0_factOf, .instanceMethod yX0_factOf, .selects RX0 yX0_factOf yX0_factOf, .code yX0_factOf cX0_factOf 3 (some .int), .fieldLink RX0 16 "GameArbiter" "facts" "[I"] ++ wsX00)
def wsX0_manGiven : List Cond := .code yX0_manGiven cX0_manGiven 2 (some .int) :: ([.fieldLink RX0 9 "GameArbiter" "given" "[J", .methodLink RX0 93 yX0_manOfPart, .static yX0_manOfPart, .initialized RX0, .code yX0_manOfPart cX0_manOfPart 4 (some .int)] ++ wsX00)
def wsX0_countGiven : List Cond := .code yX0_countGiven cX0_countGiven 4 (some .int) :: ([.methodLink RX0 122 yX0_manGiven, .instanceMethod yX0_manGiven, .selects RX0 yX0_manGiven yX0_manGiven, .initialized RX0, .code yX0_manGiven cX0_manGiven 2 (some .int), .fieldLink RX0 9 "GameArbiter" "given" "[J", .methodLink RX0 93 yX0_manOfPart, .static yX0_manOfPart, .code yX0_manOfPart cX0_manOfPart 4 (some .int)] ++ wsX00)
def wsX0_firstSquareGiven : List Cond := .code yX0_firstSquareGiven cX0_firstSquareGiven 3 (some .int) :: ([.methodLink RX0 122 yX0_manGiven, .instanceMethod yX0_manGiven, .selects RX0 yX0_manGiven yX0_manGiven, .initialized RX0, .code yX0_manGiven cX0_manGiven 2 (some .int), .fieldLink RX0 9 "GameArbiter" "given" "[J", .methodLink RX0 93 yX0_manOfPart, .static yX0_manOfPart, .code yX0_manOfPart cX0_manOfPart 4 (some .int)] ++ wsX00)
def wsX0_colourOf : List Cond := .code yX0_colourOf cX0_colourOf 3 (some .int) :: ([])
def wsX0_isGivenDead : List Cond := .code yX0_isGivenDead cX0_isGivenDead 4 (some .boolean) :: ([.methodLink RX0 97 yX0_countGiven, .instanceMethod yX0_countGiven, .selects RX0 yX0_countGiven yX0_countGiven, .initialized RX0, .code yX0_countGiven cX0_countGiven 4 (some .int), .methodLink RX0 122 yX0_manGiven, .instanceMethod yX0_manGiven, .selects RX0 yX0_manGiven yX0_manGiven, .code yX0_manGiven cX0_manGiven 2 (some .int), .fieldLink RX0 9 "GameArbiter" "given" "[J", .methodLink RX0 93 yX0_manOfPart, .static yX0_manOfPart, .code yX0_manOfPart cX0_manOfPart 4 (some .int), .methodLink RX0 116 yX0_firstSquareGiven, .instanceMethod yX0_firstSquareGiven, .selects RX0 yX0_firstSquareGiven yX0_firstSquareGiven, .code yX0_firstSquareGiven cX0_firstSquareGiven 3 (some .int), .methodLink RX0 119 yX0_colourOf, .static yX0_colourOf, .code yX0_colourOf cX0_colourOf 3 (some .int)] ++ wsX00)
def wsX0_judge : List Cond := .code yX0_judge cX0_judge 5 (some .int) :: ([])
def wsX0_append_r1 : List Cond := [Cond.fieldLink RX0 20 "GameArbiter" "positions" "I", Cond.fieldLink RX0 16 "GameArbiter" "facts" "[I", Cond.fieldLink RX0 9 "GameArbiter" "given" "[J", Cond.fieldLink RX0 13 "GameArbiter" "told" "[J", Cond.methodLink RX0 107 arraycopyName, Cond.native arraycopyName, Cond.static arraycopyName, Cond.initialized "java/lang/System", Cond.methodLink RX0 79 yX0_lastSame, Cond.instanceMethod yX0_lastSame, Cond.selects RX0 yX0_lastSame yX0_lastSame, Cond.initialized RX0, Cond.code yX0_lastSame cX0_lastSame 3 (some .int), Cond.methodLink RX0 63 yX0_factOf, Cond.instanceMethod yX0_factOf, Cond.selects RX0 yX0_factOf yX0_factOf, Cond.code yX0_factOf cX0_factOf 3 (some .int), Cond.methodLink RX0 113 yX0_hasGivenSquares, Cond.instanceMethod yX0_hasGivenSquares, Cond.selects RX0 yX0_hasGivenSquares yX0_hasGivenSquares, Cond.code yX0_hasGivenSquares cX0_hasGivenSquares 3 (some .boolean), Cond.methodLink RX0 83 yX0_countUpTo, Cond.instanceMethod yX0_countUpTo, Cond.selects RX0 yX0_countUpTo yX0_countUpTo]
def wsX0_append_r2 : List Cond := [Cond.code yX0_countUpTo cX0_countUpTo 2 (some .int), Cond.methodLink RX0 67 yX0_isPosition, Cond.instanceMethod yX0_isPosition, Cond.selects RX0 yX0_isPosition yX0_isPosition, Cond.code yX0_isPosition cX0_isPosition 2 (some .boolean), Cond.methodLink RX0 97 yX0_countGiven, Cond.instanceMethod yX0_countGiven, Cond.selects RX0 yX0_countGiven yX0_countGiven, Cond.code yX0_countGiven cX0_countGiven 4 (some .int), Cond.methodLink RX0 122 yX0_manGiven, Cond.instanceMethod yX0_manGiven, Cond.selects RX0 yX0_manGiven yX0_manGiven, Cond.code yX0_manGiven cX0_manGiven 2 (some .int), Cond.methodLink RX0 93 yX0_manOfPart, Cond.static yX0_manOfPart, Cond.code yX0_manOfPart cX0_manOfPart 4 (some .int), Cond.methodLink RX0 100 yX0_isGivenDead, Cond.instanceMethod yX0_isGivenDead, Cond.selects RX0 yX0_isGivenDead yX0_isGivenDead, Cond.code yX0_isGivenDead cX0_isGivenDead 4 (some .boolean), Cond.methodLink RX0 116 yX0_firstSquareGiven, Cond.instanceMethod yX0_firstSquareGiven, Cond.selects RX0 yX0_firstSquareGiven yX0_firstSquareGiven, Cond.code yX0_firstSquareGiven cX0_firstSquareGiven 3 (some .int)]
def wsX0_append_r3 : List Cond := [Cond.methodLink RX0 119 yX0_colourOf, Cond.static yX0_colourOf, Cond.code yX0_colourOf cX0_colourOf 3 (some .int), Cond.methodLink RX0 103 yX0_judge, Cond.static yX0_judge, Cond.code yX0_judge cX0_judge 5 (some .int)]
def wsX0_append : List Cond := .code yX0_append cX0_append 12 (some .int) :: ((wsX0_append_r1 ++ (wsX0_append_r2 ++ wsX0_append_r3)) ++ wsX00)
def wsX0_begin_r1 : List Cond := [Cond.classLink RX0 41 "java/lang/IllegalArgumentException", Cond.initialized "java/lang/IllegalArgumentException", Cond.fieldLink RX0 20 "GameArbiter" "positions" "I", Cond.methodLink RX0 32 yX0_isState, Cond.static yX0_isState, Cond.initialized RX0, Cond.code yX0_isState cX0_isState 2 (some .boolean), Cond.methodLink RX0 35 yX0_isMoves, Cond.static yX0_isMoves, Cond.code yX0_isMoves cX0_isMoves 1 (some .boolean), Cond.methodLink RX0 38 yX0_isClock, Cond.static yX0_isClock, Cond.code yX0_isClock cX0_isClock 1 (some .boolean), Cond.methodLink RX0 48 yX0_append, Cond.instanceMethod yX0_append, Cond.selects RX0 yX0_append yX0_append, Cond.code yX0_append cX0_append 12 (some .int), Cond.fieldLink RX0 16 "GameArbiter" "facts" "[I", Cond.fieldLink RX0 9 "GameArbiter" "given" "[J", Cond.fieldLink RX0 13 "GameArbiter" "told" "[J", Cond.methodLink RX0 107 arraycopyName, Cond.native arraycopyName, Cond.static arraycopyName, Cond.initialized "java/lang/System"]
def wsX0_begin_r2 : List Cond := [Cond.methodLink RX0 79 yX0_lastSame, Cond.instanceMethod yX0_lastSame, Cond.selects RX0 yX0_lastSame yX0_lastSame, Cond.code yX0_lastSame cX0_lastSame 3 (some .int), Cond.methodLink RX0 63 yX0_factOf, Cond.instanceMethod yX0_factOf, Cond.selects RX0 yX0_factOf yX0_factOf, Cond.code yX0_factOf cX0_factOf 3 (some .int), Cond.methodLink RX0 113 yX0_hasGivenSquares, Cond.instanceMethod yX0_hasGivenSquares, Cond.selects RX0 yX0_hasGivenSquares yX0_hasGivenSquares, Cond.code yX0_hasGivenSquares cX0_hasGivenSquares 3 (some .boolean), Cond.methodLink RX0 83 yX0_countUpTo, Cond.instanceMethod yX0_countUpTo, Cond.selects RX0 yX0_countUpTo yX0_countUpTo, Cond.code yX0_countUpTo cX0_countUpTo 2 (some .int), Cond.methodLink RX0 67 yX0_isPosition, Cond.instanceMethod yX0_isPosition, Cond.selects RX0 yX0_isPosition yX0_isPosition, Cond.code yX0_isPosition cX0_isPosition 2 (some .boolean), Cond.methodLink RX0 97 yX0_countGiven, Cond.instanceMethod yX0_countGiven, Cond.selects RX0 yX0_countGiven yX0_countGiven, Cond.code yX0_countGiven cX0_countGiven 4 (some .int)]
def wsX0_begin_r3 : List Cond := [Cond.methodLink RX0 122 yX0_manGiven, Cond.instanceMethod yX0_manGiven, Cond.selects RX0 yX0_manGiven yX0_manGiven, Cond.code yX0_manGiven cX0_manGiven 2 (some .int), Cond.methodLink RX0 93 yX0_manOfPart, Cond.static yX0_manOfPart, Cond.code yX0_manOfPart cX0_manOfPart 4 (some .int), Cond.methodLink RX0 100 yX0_isGivenDead, Cond.instanceMethod yX0_isGivenDead, Cond.selects RX0 yX0_isGivenDead yX0_isGivenDead, Cond.code yX0_isGivenDead cX0_isGivenDead 4 (some .boolean), Cond.methodLink RX0 116 yX0_firstSquareGiven, Cond.instanceMethod yX0_firstSquareGiven, Cond.selects RX0 yX0_firstSquareGiven yX0_firstSquareGiven, Cond.code yX0_firstSquareGiven cX0_firstSquareGiven 3 (some .int), Cond.methodLink RX0 119 yX0_colourOf, Cond.static yX0_colourOf, Cond.code yX0_colourOf cX0_colourOf 3 (some .int), Cond.methodLink RX0 103 yX0_judge, Cond.static yX0_judge, Cond.code yX0_judge cX0_judge 5 (some .int)]
def wsX0_begin : List Cond := .code yX0_begin cX0_begin 5 (some .int) :: ((wsX0_begin_r1 ++ (wsX0_begin_r2 ++ wsX0_begin_r3)) ++ wsX00 ++ (vx_atS RX0 45 "java/lang/IllegalArgumentException" ["java/lang/RuntimeException", "java/lang/Exception"]).filter goodWord)
def wsX0_takesAnother : List Cond := .code yX0_takesAnother cX0_takesAnother 2 (some .boolean) :: ([.fieldLink RX0 20 "GameArbiter" "positions" "I", .methodLink RX0 63 yX0_factOf, .instanceMethod yX0_factOf, .selects RX0 yX0_factOf yX0_factOf, .initialized RX0, .code yX0_factOf cX0_factOf 3 (some .int), .fieldLink RX0 16 "GameArbiter" "facts" "[I"] ++ wsX00)
def wsX0_next_r1 : List Cond := [Cond.classLink RX0 56 "java/lang/IllegalStateException", Cond.initialized "java/lang/IllegalStateException", Cond.classLink RX0 41 "java/lang/IllegalArgumentException", Cond.initialized "java/lang/IllegalArgumentException", Cond.fieldLink RX0 20 "GameArbiter" "positions" "I", Cond.methodLink RX0 52 yX0_takesAnother, Cond.instanceMethod yX0_takesAnother, Cond.selects RX0 yX0_takesAnother yX0_takesAnother, Cond.initialized RX0, Cond.code yX0_takesAnother cX0_takesAnother 2 (some .boolean), Cond.methodLink RX0 63 yX0_factOf, Cond.instanceMethod yX0_factOf, Cond.selects RX0 yX0_factOf yX0_factOf, Cond.code yX0_factOf cX0_factOf 3 (some .int), Cond.fieldLink RX0 16 "GameArbiter" "facts" "[I", Cond.methodLink RX0 32 yX0_isState, Cond.static yX0_isState, Cond.code yX0_isState cX0_isState 2 (some .boolean), Cond.methodLink RX0 35 yX0_isMoves, Cond.static yX0_isMoves, Cond.code yX0_isMoves cX0_isMoves 1 (some .boolean), Cond.methodLink RX0 48 yX0_append, Cond.instanceMethod yX0_append, Cond.selects RX0 yX0_append yX0_append]
def wsX0_next_r2 : List Cond := [Cond.code yX0_append cX0_append 12 (some .int), Cond.fieldLink RX0 9 "GameArbiter" "given" "[J", Cond.fieldLink RX0 13 "GameArbiter" "told" "[J", Cond.methodLink RX0 107 arraycopyName, Cond.native arraycopyName, Cond.static arraycopyName, Cond.initialized "java/lang/System", Cond.methodLink RX0 79 yX0_lastSame, Cond.instanceMethod yX0_lastSame, Cond.selects RX0 yX0_lastSame yX0_lastSame, Cond.code yX0_lastSame cX0_lastSame 3 (some .int), Cond.methodLink RX0 113 yX0_hasGivenSquares, Cond.instanceMethod yX0_hasGivenSquares, Cond.selects RX0 yX0_hasGivenSquares yX0_hasGivenSquares, Cond.code yX0_hasGivenSquares cX0_hasGivenSquares 3 (some .boolean), Cond.methodLink RX0 83 yX0_countUpTo, Cond.instanceMethod yX0_countUpTo, Cond.selects RX0 yX0_countUpTo yX0_countUpTo, Cond.code yX0_countUpTo cX0_countUpTo 2 (some .int), Cond.methodLink RX0 67 yX0_isPosition, Cond.instanceMethod yX0_isPosition, Cond.selects RX0 yX0_isPosition yX0_isPosition, Cond.code yX0_isPosition cX0_isPosition 2 (some .boolean), Cond.methodLink RX0 97 yX0_countGiven]
def wsX0_next_r3 : List Cond := [Cond.instanceMethod yX0_countGiven, Cond.selects RX0 yX0_countGiven yX0_countGiven, Cond.code yX0_countGiven cX0_countGiven 4 (some .int), Cond.methodLink RX0 122 yX0_manGiven, Cond.instanceMethod yX0_manGiven, Cond.selects RX0 yX0_manGiven yX0_manGiven, Cond.code yX0_manGiven cX0_manGiven 2 (some .int), Cond.methodLink RX0 93 yX0_manOfPart, Cond.static yX0_manOfPart, Cond.code yX0_manOfPart cX0_manOfPart 4 (some .int), Cond.methodLink RX0 100 yX0_isGivenDead, Cond.instanceMethod yX0_isGivenDead, Cond.selects RX0 yX0_isGivenDead yX0_isGivenDead, Cond.code yX0_isGivenDead cX0_isGivenDead 4 (some .boolean), Cond.methodLink RX0 116 yX0_firstSquareGiven, Cond.instanceMethod yX0_firstSquareGiven, Cond.selects RX0 yX0_firstSquareGiven yX0_firstSquareGiven, Cond.code yX0_firstSquareGiven cX0_firstSquareGiven 3 (some .int), Cond.methodLink RX0 119 yX0_colourOf, Cond.static yX0_colourOf, Cond.code yX0_colourOf cX0_colourOf 3 (some .int), Cond.methodLink RX0 103 yX0_judge, Cond.static yX0_judge, Cond.code yX0_judge cX0_judge 5 (some .int)]
def wsX0_next : List Cond := .code yX0_next cX0_next 6 (some .int) :: ((wsX0_next_r1 ++ (wsX0_next_r2 ++ wsX0_next_r3)) ++ wsX00 ++ (vx_atS RX0 60 "java/lang/IllegalStateException" ["java/lang/RuntimeException", "java/lang/Exception"]).filter goodWord ++ (vx_atS RX0 45 "java/lang/IllegalArgumentException" ["java/lang/RuntimeException", "java/lang/Exception"]).filter goodWord)
def wsX0_back : List Cond := .code yX0_back cX0_back 1 (some .boolean) :: ([.fieldLink RX0 20 "GameArbiter" "positions" "I"] ++ wsX00)
def wsX0_verdict : List Cond := .code yX0_verdict cX0_verdict 1 (some .int) :: ([.fieldLink RX0 20 "GameArbiter" "positions" "I", .methodLink RX0 63 yX0_factOf, .instanceMethod yX0_factOf, .selects RX0 yX0_factOf yX0_factOf, .initialized RX0, .code yX0_factOf cX0_factOf 3 (some .int), .fieldLink RX0 16 "GameArbiter" "facts" "[I"] ++ wsX00)
def wsX0_of : List Cond := .code yX0_of cX0_of 3 (some .int) :: ([.classLink RX0 70 "java/lang/IndexOutOfBoundsException", .initialized "java/lang/IndexOutOfBoundsException", .methodLink RX0 67 yX0_isPosition, .instanceMethod yX0_isPosition, .selects RX0 yX0_isPosition yX0_isPosition, .initialized RX0, .code yX0_isPosition cX0_isPosition 2 (some .boolean), .fieldLink RX0 20 "GameArbiter" "positions" "I", .methodLink RX0 63 yX0_factOf, .instanceMethod yX0_factOf, .selects RX0 yX0_factOf yX0_factOf, .code yX0_factOf cX0_factOf 3 (some .int), .fieldLink RX0 16 "GameArbiter" "facts" "[I"] ++ wsX00 ++ (vx_atS RX0 74 "java/lang/IndexOutOfBoundsException" ["java/lang/RuntimeException", "java/lang/Exception"]).filter goodWord)
def wsX0_men : List Cond := .code yX0_men cX0_men 3 (some .long) :: ([.classLink RX0 70 "java/lang/IndexOutOfBoundsException", .initialized "java/lang/IndexOutOfBoundsException", .fieldLink RX0 13 "GameArbiter" "told" "[J", .methodLink RX0 67 yX0_isPosition, .instanceMethod yX0_isPosition, .selects RX0 yX0_isPosition yX0_isPosition, .initialized RX0, .code yX0_isPosition cX0_isPosition 2 (some .boolean), .fieldLink RX0 20 "GameArbiter" "positions" "I", .methodLink RX0 24 yX0_isPart, .static yX0_isPart, .code yX0_isPart cX0_isPart 1 (some .boolean)] ++ wsX00 ++ (vx_atS RX0 74 "java/lang/IndexOutOfBoundsException" ["java/lang/RuntimeException", "java/lang/Exception"]).filter goodWord)
def wsX0_times_r1 : List Cond := [Cond.classLink RX0 41 "java/lang/IllegalArgumentException", Cond.initialized "java/lang/IllegalArgumentException", Cond.methodLink RX0 32 yX0_isState, Cond.static yX0_isState, Cond.initialized RX0, Cond.code yX0_isState cX0_isState 2 (some .boolean), Cond.methodLink RX0 79 yX0_lastSame, Cond.instanceMethod yX0_lastSame, Cond.selects RX0 yX0_lastSame yX0_lastSame, Cond.code yX0_lastSame cX0_lastSame 3 (some .int), Cond.fieldLink RX0 20 "GameArbiter" "positions" "I", Cond.methodLink RX0 63 yX0_factOf, Cond.instanceMethod yX0_factOf, Cond.selects RX0 yX0_factOf yX0_factOf, Cond.code yX0_factOf cX0_factOf 3 (some .int), Cond.fieldLink RX0 16 "GameArbiter" "facts" "[I", Cond.methodLink RX0 113 yX0_hasGivenSquares, Cond.instanceMethod yX0_hasGivenSquares, Cond.selects RX0 yX0_hasGivenSquares yX0_hasGivenSquares, Cond.code yX0_hasGivenSquares cX0_hasGivenSquares 3 (some .boolean), Cond.fieldLink RX0 13 "GameArbiter" "told" "[J", Cond.fieldLink RX0 9 "GameArbiter" "given" "[J", Cond.methodLink RX0 83 yX0_countUpTo, Cond.instanceMethod yX0_countUpTo]
def wsX0_times_r2 : List Cond := [Cond.selects RX0 yX0_countUpTo yX0_countUpTo, Cond.code yX0_countUpTo cX0_countUpTo 2 (some .int), Cond.methodLink RX0 67 yX0_isPosition, Cond.instanceMethod yX0_isPosition, Cond.selects RX0 yX0_isPosition yX0_isPosition, Cond.code yX0_isPosition cX0_isPosition 2 (some .boolean)]
def wsX0_times : List Cond := .code yX0_times cX0_times 2 (some .int) :: ((wsX0_times_r1 ++ wsX0_times_r2) ++ wsX00 ++ (vx_atS RX0 45 "java/lang/IllegalArgumentException" ["java/lang/RuntimeException", "java/lang/Exception"]).filter goodWord)
def wsX0_differentPositions : List Cond := .code yX0_differentPositions cX0_differentPositions 3 (some .int) :: ([.fieldLink RX0 20 "GameArbiter" "positions" "I", .methodLink RX0 63 yX0_factOf, .instanceMethod yX0_factOf, .selects RX0 yX0_factOf yX0_factOf, .initialized RX0, .code yX0_factOf cX0_factOf 3 (some .int), .fieldLink RX0 16 "GameArbiter" "facts" "[I"] ++ wsX00)
def wsX0_greatest : List Cond := .code yX0_greatest cX0_greatest 4 (some .int) :: ([.fieldLink RX0 20 "GameArbiter" "positions" "I", .methodLink RX0 125 Lib.Math.max.name, .static Lib.Math.max.name, .initialized "java/lang/Math", .code Lib.Math.max.name Lib.Math.max.code 2 (some .int), .methodLink RX0 63 yX0_factOf, .instanceMethod yX0_factOf, .selects RX0 yX0_factOf yX0_factOf, .initialized RX0, .code yX0_factOf cX0_factOf 3 (some .int), .fieldLink RX0 16 "GameArbiter" "facts" "[I"] ++ wsX00)
def wsX0_look : List Cond := .code yX0_look cX0_look 2 (some .int) :: ([.fieldLink RX0 20 "GameArbiter" "positions" "I", .methodLink RX0 86 yX0_differentPositions, .instanceMethod yX0_differentPositions, .selects RX0 yX0_differentPositions yX0_differentPositions, .initialized RX0, .code yX0_differentPositions cX0_differentPositions 3 (some .int), .methodLink RX0 63 yX0_factOf, .instanceMethod yX0_factOf, .selects RX0 yX0_factOf yX0_factOf, .code yX0_factOf cX0_factOf 3 (some .int), .fieldLink RX0 16 "GameArbiter" "facts" "[I", .methodLink RX0 90 yX0_greatest, .instanceMethod yX0_greatest, .selects RX0 yX0_greatest yX0_greatest, .code yX0_greatest cX0_greatest 4 (some .int), .methodLink RX0 125 Lib.Math.max.name, .static Lib.Math.max.name, .initialized "java/lang/Math", .code Lib.Math.max.name Lib.Math.max.code 2 (some .int)] ++ wsX00)
def wsX1_init : List Cond := .code yX1_init cX1_init 1 none :: ([.methodLink RX1 1 objectInit, .instanceMethod objectInit, .code objectInit ⟨#[0xb1]⟩ 1 none, .arrayClass .int, .fieldLink RX1 7 "GameArbiterModel" "next" "[I", .constant RX1 13 (40960), .fieldLink RX1 14 "GameArbiterModel" "men" "[I", .fieldLink RX1 17 "GameArbiterModel" "states" "[I", .fieldLink RX1 20 "GameArbiterModel" "clocks" "[I", .fieldLink RX1 23 "GameArbiterModel" "verdicts" "[I"] ++ wsX10)
def wsX1_thrown : List Cond := .code yX1_thrown cX1_thrown 1 (some .int) :: ([.fieldLink RX1 26 "GameArbiterModel" "thrown" "I"] ++ wsX10)
def wsX1_squares : List Cond := .code yX1_squares cX1_squares 5 (some .boolean) :: ([.fieldLink RX1 26 "GameArbiterModel" "thrown" "I", .constantLong RX1 30 (15), .constantLong RX1 32 (12), .fieldLink RX1 7 "GameArbiterModel" "next" "[I"] ++ wsX10)
def wsX1_isState : List Cond := .code yX1_isState cX1_isState 2 (some .boolean) :: ([])
def wsX1_isSame : List Cond := .code yX1_isSame cX1_isSame 5 (some .boolean) :: ([.fieldLink RX1 17 "GameArbiterModel" "states" "[I", .fieldLink RX1 14 "GameArbiterModel" "men" "[I"] ++ wsX10)
def wsX1_isNext : List Cond := .code yX1_isNext cX1_isNext 5 (some .boolean) :: ([.fieldLink RX1 17 "GameArbiterModel" "states" "[I", .fieldLink RX1 14 "GameArbiterModel" "men" "[I", .fieldLink RX1 7 "GameArbiterModel" "next" "[I"] ++ wsX10)
def wsX1_countOf : List Cond := .code yX1_countOf cX1_countOf 4 (some .int) :: ([.methodLink RX1 34 yX1_isSame, .instanceMethod yX1_isSame, .selects RX1 yX1_isSame yX1_isSame, .initialized RX1, .code yX1_isSame cX1_isSame 5 (some .boolean), .fieldLink RX1 17 "GameArbiterModel" "states" "[I", .fieldLink RX1 14 "GameArbiterModel" "men" "[I"] ++ wsX10)
def wsX1_howMany : List Cond := .code yX1_howMany cX1_howMany 5 (some .int) :: ([.fieldLink RX1 14 "GameArbiterModel" "men" "[I"] ++ wsX10)
def wsX1_colour : List Cond := .code yX1_colour cX1_colour 5 (some .int) :: ([.fieldLink RX1 14 "GameArbiterModel" "men" "[I"] ++ wsX10)
def wsX1_isDead : List Cond := .code yX1_isDead cX1_isDead 6 (some .boolean) :: ([.methodLink RX1 38 yX1_howMany, .instanceMethod yX1_howMany, .selects RX1 yX1_howMany yX1_howMany, .initialized RX1, .code yX1_howMany cX1_howMany 5 (some .int), .fieldLink RX1 14 "GameArbiterModel" "men" "[I", .methodLink RX1 42 yX1_colour, .instanceMethod yX1_colour, .selects RX1 yX1_colour yX1_colour, .code yX1_colour cX1_colour 5 (some .int)] ++ wsX10)
def wsX1_verdictOf : List Cond := .code yX1_verdictOf cX1_verdictOf 5 (some .int) :: ([.fieldLink RX1 20 "GameArbiterModel" "clocks" "[I", .methodLink RX1 45 yX1_countOf, .instanceMethod yX1_countOf, .selects RX1 yX1_countOf yX1_countOf, .initialized RX1, .code yX1_countOf cX1_countOf 4 (some .int), .methodLink RX1 34 yX1_isSame, .instanceMethod yX1_isSame, .selects RX1 yX1_isSame yX1_isSame, .code yX1_isSame cX1_isSame 5 (some .boolean), .fieldLink RX1 17 "GameArbiterModel" "states" "[I", .fieldLink RX1 14 "GameArbiterModel" "men" "[I", .methodLink RX1 49 yX1_isDead, .instanceMethod yX1_isDead, .selects RX1 yX1_isDead yX1_isDead, .code yX1_isDead cX1_isDead 6 (some .boolean), .methodLink RX1 38 yX1_howMany, .instanceMethod yX1_howMany, .selects RX1 yX1_howMany yX1_howMany, .code yX1_howMany cX1_howMany 5 (some .int), .methodLink RX1 42 yX1_colour, .instanceMethod yX1_colour, .selects RX1 yX1_colour yX1_colour, .code yX1_colour cX1_colour 5 (some .int)] ++ wsX10)
def wsX1_add_r1 : List Cond := [Cond.fieldLink RX1 14 "GameArbiterModel" "men" "[I", Cond.fieldLink RX1 53 "GameArbiterModel" "many" "I", Cond.fieldLink RX1 7 "GameArbiterModel" "next" "[I", Cond.fieldLink RX1 17 "GameArbiterModel" "states" "[I", Cond.fieldLink RX1 20 "GameArbiterModel" "clocks" "[I", Cond.fieldLink RX1 23 "GameArbiterModel" "verdicts" "[I", Cond.methodLink RX1 56 yX1_verdictOf, Cond.instanceMethod yX1_verdictOf, Cond.selects RX1 yX1_verdictOf yX1_verdictOf, Cond.initialized RX1, Cond.code yX1_verdictOf cX1_verdictOf 5 (some .int), Cond.methodLink RX1 45 yX1_countOf, Cond.instanceMethod yX1_countOf, Cond.selects RX1 yX1_countOf yX1_countOf, Cond.code yX1_countOf cX1_countOf 4 (some .int), Cond.methodLink RX1 34 yX1_isSame, Cond.instanceMethod yX1_isSame, Cond.selects RX1 yX1_isSame yX1_isSame, Cond.code yX1_isSame cX1_isSame 5 (some .boolean), Cond.methodLink RX1 49 yX1_isDead, Cond.instanceMethod yX1_isDead, Cond.selects RX1 yX1_isDead yX1_isDead, Cond.code yX1_isDead cX1_isDead 6 (some .boolean), Cond.methodLink RX1 38 yX1_howMany]
def wsX1_add_r2 : List Cond := [Cond.instanceMethod yX1_howMany, Cond.selects RX1 yX1_howMany yX1_howMany, Cond.code yX1_howMany cX1_howMany 5 (some .int), Cond.methodLink RX1 42 yX1_colour, Cond.instanceMethod yX1_colour, Cond.selects RX1 yX1_colour yX1_colour, Cond.code yX1_colour cX1_colour 5 (some .int)]
def wsX1_add : List Cond := .code yX1_add cX1_add 6 (some .int) :: ((wsX1_add_r1 ++ wsX1_add_r2) ++ wsX10)
def wsX1_begin_r1 : List Cond := [Cond.fieldLink RX1 26 "GameArbiterModel" "thrown" "I", Cond.fieldLink RX1 53 "GameArbiterModel" "many" "I", Cond.methodLink RX1 60 yX1_isState, Cond.static yX1_isState, Cond.initialized RX1, Cond.code yX1_isState cX1_isState 2 (some .boolean), Cond.methodLink RX1 63 yX1_add, Cond.instanceMethod yX1_add, Cond.selects RX1 yX1_add yX1_add, Cond.code yX1_add cX1_add 6 (some .int), Cond.fieldLink RX1 14 "GameArbiterModel" "men" "[I", Cond.fieldLink RX1 7 "GameArbiterModel" "next" "[I", Cond.fieldLink RX1 17 "GameArbiterModel" "states" "[I", Cond.fieldLink RX1 20 "GameArbiterModel" "clocks" "[I", Cond.fieldLink RX1 23 "GameArbiterModel" "verdicts" "[I", Cond.methodLink RX1 56 yX1_verdictOf, Cond.instanceMethod yX1_verdictOf, Cond.selects RX1 yX1_verdictOf yX1_verdictOf, Cond.code yX1_verdictOf cX1_verdictOf 5 (some .int), Cond.methodLink RX1 45 yX1_countOf, Cond.instanceMethod yX1_countOf, Cond.selects RX1 yX1_countOf yX1_countOf, Cond.code yX1_countOf cX1_countOf 4 (some .int), Cond.methodLink RX1 34 yX1_isSame]
def wsX1_begin_r2 : List Cond := [Cond.instanceMethod yX1_isSame, Cond.selects RX1 yX1_isSame yX1_isSame, Cond.code yX1_isSame cX1_isSame 5 (some .boolean), Cond.methodLink RX1 49 yX1_isDead, Cond.instanceMethod yX1_isDead, Cond.selects RX1 yX1_isDead yX1_isDead, Cond.code yX1_isDead cX1_isDead 6 (some .boolean), Cond.methodLink RX1 38 yX1_howMany, Cond.instanceMethod yX1_howMany, Cond.selects RX1 yX1_howMany yX1_howMany, Cond.code yX1_howMany cX1_howMany 5 (some .int), Cond.methodLink RX1 42 yX1_colour, Cond.instanceMethod yX1_colour, Cond.selects RX1 yX1_colour yX1_colour, Cond.code yX1_colour cX1_colour 5 (some .int)]
def wsX1_begin : List Cond := .code yX1_begin cX1_begin 5 (some .int) :: ((wsX1_begin_r1 ++ wsX1_begin_r2) ++ wsX10)
def wsX1_next_r1 : List Cond := [Cond.fieldLink RX1 53 "GameArbiterModel" "many" "I", Cond.fieldLink RX1 23 "GameArbiterModel" "verdicts" "[I", Cond.fieldLink RX1 26 "GameArbiterModel" "thrown" "I", Cond.fieldLink RX1 20 "GameArbiterModel" "clocks" "[I", Cond.methodLink RX1 60 yX1_isState, Cond.static yX1_isState, Cond.initialized RX1, Cond.code yX1_isState cX1_isState 2 (some .boolean), Cond.methodLink RX1 63 yX1_add, Cond.instanceMethod yX1_add, Cond.selects RX1 yX1_add yX1_add, Cond.code yX1_add cX1_add 6 (some .int), Cond.fieldLink RX1 14 "GameArbiterModel" "men" "[I", Cond.fieldLink RX1 7 "GameArbiterModel" "next" "[I", Cond.fieldLink RX1 17 "GameArbiterModel" "states" "[I", Cond.methodLink RX1 56 yX1_verdictOf, Cond.instanceMethod yX1_verdictOf, Cond.selects RX1 yX1_verdictOf yX1_verdictOf, Cond.code yX1_verdictOf cX1_verdictOf 5 (some .int), Cond.methodLink RX1 45 yX1_countOf, Cond.instanceMethod yX1_countOf, Cond.selects RX1 yX1_countOf yX1_countOf, Cond.code yX1_countOf cX1_countOf 4 (some .int), Cond.methodLink RX1 34 yX1_isSame]
def wsX1_next_r2 : List Cond := [Cond.instanceMethod yX1_isSame, Cond.selects RX1 yX1_isSame yX1_isSame, Cond.code yX1_isSame cX1_isSame 5 (some .boolean), Cond.methodLink RX1 49 yX1_isDead, Cond.instanceMethod yX1_isDead, Cond.selects RX1 yX1_isDead yX1_isDead, Cond.code yX1_isDead cX1_isDead 6 (some .boolean), Cond.methodLink RX1 38 yX1_howMany, Cond.instanceMethod yX1_howMany, Cond.selects RX1 yX1_howMany yX1_howMany, Cond.code yX1_howMany cX1_howMany 5 (some .int), Cond.methodLink RX1 42 yX1_colour, Cond.instanceMethod yX1_colour, Cond.selects RX1 yX1_colour yX1_colour, Cond.code yX1_colour cX1_colour 5 (some .int)]
def wsX1_next : List Cond := .code yX1_next cX1_next 6 (some .int) :: ((wsX1_next_r1 ++ wsX1_next_r2) ++ wsX10)
def wsX1_back : List Cond := .code yX1_back cX1_back 1 (some .boolean) :: ([.fieldLink RX1 26 "GameArbiterModel" "thrown" "I", .fieldLink RX1 53 "GameArbiterModel" "many" "I"] ++ wsX10)
def wsX1_verdict : List Cond := .code yX1_verdict cX1_verdict 1 (some .int) :: ([.fieldLink RX1 26 "GameArbiterModel" "thrown" "I", .fieldLink RX1 53 "GameArbiterModel" "many" "I", .fieldLink RX1 23 "GameArbiterModel" "verdicts" "[I"] ++ wsX10)
def wsX1_isIn : List Cond := .code yX1_isIn cX1_isIn 2 (some .boolean) :: ([.fieldLink RX1 53 "GameArbiterModel" "many" "I"] ++ wsX10)
def wsX1_of_r1 : List Cond := [Cond.fieldLink RX1 26 "GameArbiterModel" "thrown" "I", Cond.fieldLink RX1 20 "GameArbiterModel" "clocks" "[I", Cond.fieldLink RX1 23 "GameArbiterModel" "verdicts" "[I", Cond.fieldLink RX1 17 "GameArbiterModel" "states" "[I", Cond.methodLink RX1 67 yX1_isIn, Cond.instanceMethod yX1_isIn, Cond.selects RX1 yX1_isIn yX1_isIn, Cond.initialized RX1, Cond.code yX1_isIn cX1_isIn 2 (some .boolean), Cond.fieldLink RX1 53 "GameArbiterModel" "many" "I", Cond.methodLink RX1 34 yX1_isSame, Cond.instanceMethod yX1_isSame, Cond.selects RX1 yX1_isSame yX1_isSame, Cond.code yX1_isSame cX1_isSame 5 (some .boolean), Cond.fieldLink RX1 14 "GameArbiterModel" "men" "[I", Cond.methodLink RX1 45 yX1_countOf, Cond.instanceMethod yX1_countOf, Cond.selects RX1 yX1_countOf yX1_countOf, Cond.code yX1_countOf cX1_countOf 4 (some .int), Cond.methodLink RX1 49 yX1_isDead, Cond.instanceMethod yX1_isDead, Cond.selects RX1 yX1_isDead yX1_isDead, Cond.code yX1_isDead cX1_isDead 6 (some .boolean), Cond.methodLink RX1 38 yX1_howMany]
def wsX1_of_r2 : List Cond := [Cond.instanceMethod yX1_howMany, Cond.selects RX1 yX1_howMany yX1_howMany, Cond.code yX1_howMany cX1_howMany 5 (some .int), Cond.methodLink RX1 42 yX1_colour, Cond.instanceMethod yX1_colour, Cond.selects RX1 yX1_colour yX1_colour, Cond.code yX1_colour cX1_colour 5 (some .int)]
def wsX1_of : List Cond := .code yX1_of cX1_of 7 (some .int) :: ((wsX1_of_r1 ++ wsX1_of_r2) ++ wsX10)
def wsX1_men : List Cond := .code yX1_men cX1_men 6 (some .long) :: ([.fieldLink RX1 26 "GameArbiterModel" "thrown" "I", .fieldLink RX1 14 "GameArbiterModel" "men" "[I", .methodLink RX1 67 yX1_isIn, .instanceMethod yX1_isIn, .selects RX1 yX1_isIn yX1_isIn, .initialized RX1, .code yX1_isIn cX1_isIn 2 (some .boolean), .fieldLink RX1 53 "GameArbiterModel" "many" "I"] ++ wsX10)
def wsX1_times : List Cond := .code yX1_times cX1_times 4 (some .int) :: ([.fieldLink RX1 26 "GameArbiterModel" "thrown" "I", .fieldLink RX1 53 "GameArbiterModel" "many" "I", .methodLink RX1 60 yX1_isState, .static yX1_isState, .initialized RX1, .code yX1_isState cX1_isState 2 (some .boolean), .methodLink RX1 70 yX1_isNext, .instanceMethod yX1_isNext, .selects RX1 yX1_isNext yX1_isNext, .code yX1_isNext cX1_isNext 5 (some .boolean), .fieldLink RX1 17 "GameArbiterModel" "states" "[I", .fieldLink RX1 14 "GameArbiterModel" "men" "[I", .fieldLink RX1 7 "GameArbiterModel" "next" "[I"] ++ wsX10)
def wsX1_look : List Cond := .code yX1_look cX1_look 7 (some .int) :: ([.fieldLink RX1 26 "GameArbiterModel" "thrown" "I", .fieldLink RX1 53 "GameArbiterModel" "many" "I", .fieldLink RX1 20 "GameArbiterModel" "clocks" "[I", .methodLink RX1 45 yX1_countOf, .instanceMethod yX1_countOf, .selects RX1 yX1_countOf yX1_countOf, .initialized RX1, .code yX1_countOf cX1_countOf 4 (some .int), .methodLink RX1 34 yX1_isSame, .instanceMethod yX1_isSame, .selects RX1 yX1_isSame yX1_isSame, .code yX1_isSame cX1_isSame 5 (some .boolean), .fieldLink RX1 17 "GameArbiterModel" "states" "[I", .fieldLink RX1 14 "GameArbiterModel" "men" "[I"] ++ wsX10)
def wsJ9_max_7cf53 : List Cond := .code yJ9_max_7cf53 cJ9_max_7cf53 2 (some .int) :: ([])
def wsL_begin_r1 : List Cond := [Cond.classLink RL 13 "java/lang/IllegalArgumentException", Cond.methodLink RL 7 yX0_begin, Cond.instanceMethod yX0_begin, Cond.selects RX0 yX0_begin yX0_begin, Cond.initialized RX0, Cond.code yX0_begin cX0_begin 5 (some .int), Cond.classLink RX0 41 "java/lang/IllegalArgumentException", Cond.initialized "java/lang/IllegalArgumentException", Cond.fieldLink RX0 20 "GameArbiter" "positions" "I", Cond.methodLink RX0 32 yX0_isState, Cond.static yX0_isState, Cond.code yX0_isState cX0_isState 2 (some .boolean), Cond.methodLink RX0 35 yX0_isMoves, Cond.static yX0_isMoves, Cond.code yX0_isMoves cX0_isMoves 1 (some .boolean), Cond.methodLink RX0 38 yX0_isClock, Cond.static yX0_isClock, Cond.code yX0_isClock cX0_isClock 1 (some .boolean), Cond.methodLink RX0 48 yX0_append, Cond.instanceMethod yX0_append, Cond.selects RX0 yX0_append yX0_append, Cond.code yX0_append cX0_append 12 (some .int), Cond.fieldLink RX0 16 "GameArbiter" "facts" "[I", Cond.fieldLink RX0 9 "GameArbiter" "given" "[J"]
def wsL_begin_r2 : List Cond := [Cond.fieldLink RX0 13 "GameArbiter" "told" "[J", Cond.methodLink RX0 107 arraycopyName, Cond.native arraycopyName, Cond.static arraycopyName, Cond.initialized "java/lang/System", Cond.methodLink RX0 79 yX0_lastSame, Cond.instanceMethod yX0_lastSame, Cond.selects RX0 yX0_lastSame yX0_lastSame, Cond.code yX0_lastSame cX0_lastSame 3 (some .int), Cond.methodLink RX0 63 yX0_factOf, Cond.instanceMethod yX0_factOf, Cond.selects RX0 yX0_factOf yX0_factOf, Cond.code yX0_factOf cX0_factOf 3 (some .int), Cond.methodLink RX0 113 yX0_hasGivenSquares, Cond.instanceMethod yX0_hasGivenSquares, Cond.selects RX0 yX0_hasGivenSquares yX0_hasGivenSquares, Cond.code yX0_hasGivenSquares cX0_hasGivenSquares 3 (some .boolean), Cond.methodLink RX0 83 yX0_countUpTo, Cond.instanceMethod yX0_countUpTo, Cond.selects RX0 yX0_countUpTo yX0_countUpTo, Cond.code yX0_countUpTo cX0_countUpTo 2 (some .int), Cond.methodLink RX0 67 yX0_isPosition, Cond.instanceMethod yX0_isPosition, Cond.selects RX0 yX0_isPosition yX0_isPosition]
def wsL_begin_r3 : List Cond := [Cond.code yX0_isPosition cX0_isPosition 2 (some .boolean), Cond.methodLink RX0 97 yX0_countGiven, Cond.instanceMethod yX0_countGiven, Cond.selects RX0 yX0_countGiven yX0_countGiven, Cond.code yX0_countGiven cX0_countGiven 4 (some .int), Cond.methodLink RX0 122 yX0_manGiven, Cond.instanceMethod yX0_manGiven, Cond.selects RX0 yX0_manGiven yX0_manGiven, Cond.code yX0_manGiven cX0_manGiven 2 (some .int), Cond.methodLink RX0 93 yX0_manOfPart, Cond.static yX0_manOfPart, Cond.code yX0_manOfPart cX0_manOfPart 4 (some .int), Cond.methodLink RX0 100 yX0_isGivenDead, Cond.instanceMethod yX0_isGivenDead, Cond.selects RX0 yX0_isGivenDead yX0_isGivenDead, Cond.code yX0_isGivenDead cX0_isGivenDead 4 (some .boolean), Cond.methodLink RX0 116 yX0_firstSquareGiven, Cond.instanceMethod yX0_firstSquareGiven, Cond.selects RX0 yX0_firstSquareGiven yX0_firstSquareGiven, Cond.code yX0_firstSquareGiven cX0_firstSquareGiven 3 (some .int), Cond.methodLink RX0 119 yX0_colourOf, Cond.static yX0_colourOf, Cond.code yX0_colourOf cX0_colourOf 3 (some .int), Cond.methodLink RX0 103 yX0_judge]
def wsL_begin_r4 : List Cond := [Cond.static yX0_judge, Cond.code yX0_judge cX0_judge 5 (some .int)]
def wsL_begin : List Cond := .codeWith yL_begin cL_begin 7 (some .int) [(0, 14, 17, 13)] :: ((wsL_begin_r1 ++ (wsL_begin_r2 ++ (wsL_begin_r3 ++ wsL_begin_r4))) ++ wsX00 ++ (vx_atS RX0 45 "java/lang/IllegalArgumentException" ["java/lang/RuntimeException", "java/lang/Exception"]).filter goodWord)
def wsL_next_r1 : List Cond := [Cond.classLink RL 19 "java/lang/IllegalStateException", Cond.classLink RL 13 "java/lang/IllegalArgumentException", Cond.methodLink RL 15 yX0_next, Cond.instanceMethod yX0_next, Cond.selects RX0 yX0_next yX0_next, Cond.initialized RX0, Cond.code yX0_next cX0_next 6 (some .int), Cond.classLink RX0 56 "java/lang/IllegalStateException", Cond.initialized "java/lang/IllegalStateException", Cond.classLink RX0 41 "java/lang/IllegalArgumentException", Cond.initialized "java/lang/IllegalArgumentException", Cond.fieldLink RX0 20 "GameArbiter" "positions" "I", Cond.methodLink RX0 52 yX0_takesAnother, Cond.instanceMethod yX0_takesAnother, Cond.selects RX0 yX0_takesAnother yX0_takesAnother, Cond.code yX0_takesAnother cX0_takesAnother 2 (some .boolean), Cond.methodLink RX0 63 yX0_factOf, Cond.instanceMethod yX0_factOf, Cond.selects RX0 yX0_factOf yX0_factOf, Cond.code yX0_factOf cX0_factOf 3 (some .int), Cond.fieldLink RX0 16 "GameArbiter" "facts" "[I", Cond.methodLink RX0 32 yX0_isState, Cond.static yX0_isState, Cond.code yX0_isState cX0_isState 2 (some .boolean)]
def wsL_next_r2 : List Cond := [Cond.methodLink RX0 35 yX0_isMoves, Cond.static yX0_isMoves, Cond.code yX0_isMoves cX0_isMoves 1 (some .boolean), Cond.methodLink RX0 48 yX0_append, Cond.instanceMethod yX0_append, Cond.selects RX0 yX0_append yX0_append, Cond.code yX0_append cX0_append 12 (some .int), Cond.fieldLink RX0 9 "GameArbiter" "given" "[J", Cond.fieldLink RX0 13 "GameArbiter" "told" "[J", Cond.methodLink RX0 107 arraycopyName, Cond.native arraycopyName, Cond.static arraycopyName, Cond.initialized "java/lang/System", Cond.methodLink RX0 79 yX0_lastSame, Cond.instanceMethod yX0_lastSame, Cond.selects RX0 yX0_lastSame yX0_lastSame, Cond.code yX0_lastSame cX0_lastSame 3 (some .int), Cond.methodLink RX0 113 yX0_hasGivenSquares, Cond.instanceMethod yX0_hasGivenSquares, Cond.selects RX0 yX0_hasGivenSquares yX0_hasGivenSquares, Cond.code yX0_hasGivenSquares cX0_hasGivenSquares 3 (some .boolean), Cond.methodLink RX0 83 yX0_countUpTo, Cond.instanceMethod yX0_countUpTo, Cond.selects RX0 yX0_countUpTo yX0_countUpTo]
def wsL_next_r3 : List Cond := [Cond.code yX0_countUpTo cX0_countUpTo 2 (some .int), Cond.methodLink RX0 67 yX0_isPosition, Cond.instanceMethod yX0_isPosition, Cond.selects RX0 yX0_isPosition yX0_isPosition, Cond.code yX0_isPosition cX0_isPosition 2 (some .boolean), Cond.methodLink RX0 97 yX0_countGiven, Cond.instanceMethod yX0_countGiven, Cond.selects RX0 yX0_countGiven yX0_countGiven, Cond.code yX0_countGiven cX0_countGiven 4 (some .int), Cond.methodLink RX0 122 yX0_manGiven, Cond.instanceMethod yX0_manGiven, Cond.selects RX0 yX0_manGiven yX0_manGiven, Cond.code yX0_manGiven cX0_manGiven 2 (some .int), Cond.methodLink RX0 93 yX0_manOfPart, Cond.static yX0_manOfPart, Cond.code yX0_manOfPart cX0_manOfPart 4 (some .int), Cond.methodLink RX0 100 yX0_isGivenDead, Cond.instanceMethod yX0_isGivenDead, Cond.selects RX0 yX0_isGivenDead yX0_isGivenDead, Cond.code yX0_isGivenDead cX0_isGivenDead 4 (some .boolean), Cond.methodLink RX0 116 yX0_firstSquareGiven, Cond.instanceMethod yX0_firstSquareGiven, Cond.selects RX0 yX0_firstSquareGiven yX0_firstSquareGiven, Cond.code yX0_firstSquareGiven cX0_firstSquareGiven 3 (some .int)]
def wsL_next_r4 : List Cond := [Cond.methodLink RX0 119 yX0_colourOf, Cond.static yX0_colourOf, Cond.code yX0_colourOf cX0_colourOf 3 (some .int), Cond.methodLink RX0 103 yX0_judge, Cond.static yX0_judge, Cond.code yX0_judge cX0_judge 5 (some .int)]
def wsL_next : List Cond := .codeWith yL_next cL_next 7 (some .int) [(0, 14, 17, 19), (0, 14, 21, 13)] :: ((wsL_next_r1 ++ (wsL_next_r2 ++ (wsL_next_r3 ++ wsL_next_r4))) ++ wsX00 ++ (vx_atS RX0 60 "java/lang/IllegalStateException" ["java/lang/RuntimeException", "java/lang/Exception"]).filter goodWord ++ (vx_atS RX0 45 "java/lang/IllegalArgumentException" ["java/lang/RuntimeException", "java/lang/Exception"]).filter goodWord)
def wsL_of : List Cond := .codeWith yL_of cL_of 5 (some .int) [(0, 10, 13, 25)] :: ([.classLink RL 25 "java/lang/IndexOutOfBoundsException", .methodLink RL 21 yX0_of, .instanceMethod yX0_of, .selects RX0 yX0_of yX0_of, .initialized RX0, .code yX0_of cX0_of 3 (some .int), .classLink RX0 70 "java/lang/IndexOutOfBoundsException", .initialized "java/lang/IndexOutOfBoundsException", .methodLink RX0 67 yX0_isPosition, .instanceMethod yX0_isPosition, .selects RX0 yX0_isPosition yX0_isPosition, .code yX0_isPosition cX0_isPosition 2 (some .boolean), .fieldLink RX0 20 "GameArbiter" "positions" "I", .methodLink RX0 63 yX0_factOf, .instanceMethod yX0_factOf, .selects RX0 yX0_factOf yX0_factOf, .code yX0_factOf cX0_factOf 3 (some .int), .fieldLink RX0 16 "GameArbiter" "facts" "[I"] ++ wsX00 ++ (vx_atS RX0 74 "java/lang/IndexOutOfBoundsException" ["java/lang/RuntimeException", "java/lang/Exception"]).filter goodWord)
def wsL_men : List Cond := .codeWith yL_men cL_men 5 (some .int) [(0, 9, 12, 25)] :: ([.classLink RL 25 "java/lang/IndexOutOfBoundsException", .methodLink RL 27 yX0_men, .instanceMethod yX0_men, .selects RX0 yX0_men yX0_men, .initialized RX0, .code yX0_men cX0_men 3 (some .long), .classLink RX0 70 "java/lang/IndexOutOfBoundsException", .initialized "java/lang/IndexOutOfBoundsException", .fieldLink RX0 13 "GameArbiter" "told" "[J", .methodLink RX0 67 yX0_isPosition, .instanceMethod yX0_isPosition, .selects RX0 yX0_isPosition yX0_isPosition, .code yX0_isPosition cX0_isPosition 2 (some .boolean), .fieldLink RX0 20 "GameArbiter" "positions" "I", .methodLink RX0 24 yX0_isPart, .static yX0_isPart, .code yX0_isPart cX0_isPart 1 (some .boolean)] ++ wsX00 ++ (vx_atS RX0 74 "java/lang/IndexOutOfBoundsException" ["java/lang/RuntimeException", "java/lang/Exception"]).filter goodWord)
def wsL_times_r1 : List Cond := [Cond.classLink RL 13 "java/lang/IllegalArgumentException", Cond.methodLink RL 31 yX0_times, Cond.instanceMethod yX0_times, Cond.selects RX0 yX0_times yX0_times, Cond.initialized RX0, Cond.code yX0_times cX0_times 2 (some .int), Cond.classLink RX0 41 "java/lang/IllegalArgumentException", Cond.initialized "java/lang/IllegalArgumentException", Cond.methodLink RX0 32 yX0_isState, Cond.static yX0_isState, Cond.code yX0_isState cX0_isState 2 (some .boolean), Cond.methodLink RX0 79 yX0_lastSame, Cond.instanceMethod yX0_lastSame, Cond.selects RX0 yX0_lastSame yX0_lastSame, Cond.code yX0_lastSame cX0_lastSame 3 (some .int), Cond.fieldLink RX0 20 "GameArbiter" "positions" "I", Cond.methodLink RX0 63 yX0_factOf, Cond.instanceMethod yX0_factOf, Cond.selects RX0 yX0_factOf yX0_factOf, Cond.code yX0_factOf cX0_factOf 3 (some .int), Cond.fieldLink RX0 16 "GameArbiter" "facts" "[I", Cond.methodLink RX0 113 yX0_hasGivenSquares, Cond.instanceMethod yX0_hasGivenSquares, Cond.selects RX0 yX0_hasGivenSquares yX0_hasGivenSquares]
def wsL_times_r2 : List Cond := [Cond.code yX0_hasGivenSquares cX0_hasGivenSquares 3 (some .boolean), Cond.fieldLink RX0 13 "GameArbiter" "told" "[J", Cond.fieldLink RX0 9 "GameArbiter" "given" "[J", Cond.methodLink RX0 83 yX0_countUpTo, Cond.instanceMethod yX0_countUpTo, Cond.selects RX0 yX0_countUpTo yX0_countUpTo, Cond.code yX0_countUpTo cX0_countUpTo 2 (some .int), Cond.methodLink RX0 67 yX0_isPosition, Cond.instanceMethod yX0_isPosition, Cond.selects RX0 yX0_isPosition yX0_isPosition, Cond.code yX0_isPosition cX0_isPosition 2 (some .boolean)]
def wsL_times : List Cond := .codeWith yL_times cL_times 4 (some .int) [(0, 9, 12, 13)] :: ((wsL_times_r1 ++ wsL_times_r2) ++ wsX00 ++ (vx_atS RX0 45 "java/lang/IllegalArgumentException" ["java/lang/RuntimeException", "java/lang/Exception"]).filter goodWord)
def wsL_law0_r1 : List Cond := [Cond.classLink RL 8 RX0, Cond.instantiable RX0 4, Cond.initialized RX0, Cond.classLink RL 36 RX1, Cond.instantiable RX1 7, Cond.initialized RX1, Cond.arrayClass .long, Cond.constantLong RL 39 (4294967295), Cond.methodLink RL 35 yX0_init, Cond.instanceMethod yX0_init, Cond.code yX0_init cX0_init 1 none, Cond.methodLink RX0 1 objectInit, Cond.instanceMethod objectInit, Cond.code objectInit ⟨#[0xb1]⟩ 1 none, Cond.fieldLink RX0 9 "GameArbiter" "given" "[J", Cond.fieldLink RX0 13 "GameArbiter" "told" "[J", Cond.arrayClass .int, Cond.fieldLink RX0 16 "GameArbiter" "facts" "[I", Cond.fieldLink RX0 20 "GameArbiter" "positions" "I", Cond.methodLink RL 38 yX1_init, Cond.instanceMethod yX1_init, Cond.code yX1_init cX1_init 1 none, Cond.methodLink RX1 1 objectInit, Cond.fieldLink RX1 7 "GameArbiterModel" "next" "[I"]
def wsL_law0_r2 : List Cond := [Cond.constant RX1 13 (40960), Cond.fieldLink RX1 14 "GameArbiterModel" "men" "[I", Cond.fieldLink RX1 17 "GameArbiterModel" "states" "[I", Cond.fieldLink RX1 20 "GameArbiterModel" "clocks" "[I", Cond.fieldLink RX1 23 "GameArbiterModel" "verdicts" "[I", Cond.methodLink RL 41 yX0_squares, Cond.instanceMethod yX0_squares, Cond.selects RX0 yX0_squares yX0_squares, Cond.code yX0_squares cX0_squares 4 (some .boolean), Cond.methodLink RX0 24 yX0_isPart, Cond.static yX0_isPart, Cond.code yX0_isPart cX0_isPart 1 (some .boolean), Cond.methodLink RX0 28 yX0_areMen, Cond.static yX0_areMen, Cond.code yX0_areMen cX0_areMen 3 (some .boolean), Cond.methodLink RX0 93 yX0_manOfPart, Cond.static yX0_manOfPart, Cond.code yX0_manOfPart cX0_manOfPart 4 (some .int), Cond.methodLink RL 45 yX1_squares, Cond.instanceMethod yX1_squares, Cond.selects RX1 yX1_squares yX1_squares, Cond.code yX1_squares cX1_squares 5 (some .boolean), Cond.fieldLink RX1 26 "GameArbiterModel" "thrown" "I", Cond.constantLong RX1 30 (15)]
def wsL_law0_r3 : List Cond := [Cond.constantLong RX1 32 (12), Cond.methodLink RL 46 yL_begin, Cond.static yL_begin, Cond.initialized RL, Cond.codeWith yL_begin cL_begin 7 (some .int) [(0, 14, 17, 13)], Cond.classLink RL 13 "java/lang/IllegalArgumentException", Cond.methodLink RL 7 yX0_begin, Cond.instanceMethod yX0_begin, Cond.selects RX0 yX0_begin yX0_begin, Cond.code yX0_begin cX0_begin 5 (some .int), Cond.classLink RX0 41 "java/lang/IllegalArgumentException", Cond.initialized "java/lang/IllegalArgumentException", Cond.methodLink RX0 32 yX0_isState, Cond.static yX0_isState, Cond.code yX0_isState cX0_isState 2 (some .boolean), Cond.methodLink RX0 35 yX0_isMoves, Cond.static yX0_isMoves, Cond.code yX0_isMoves cX0_isMoves 1 (some .boolean), Cond.methodLink RX0 38 yX0_isClock, Cond.static yX0_isClock, Cond.code yX0_isClock cX0_isClock 1 (some .boolean), Cond.methodLink RX0 48 yX0_append, Cond.instanceMethod yX0_append, Cond.selects RX0 yX0_append yX0_append]
def wsL_law0_r4 : List Cond := [Cond.code yX0_append cX0_append 12 (some .int), Cond.methodLink RX0 107 arraycopyName, Cond.native arraycopyName, Cond.static arraycopyName, Cond.initialized "java/lang/System", Cond.methodLink RX0 79 yX0_lastSame, Cond.instanceMethod yX0_lastSame, Cond.selects RX0 yX0_lastSame yX0_lastSame, Cond.code yX0_lastSame cX0_lastSame 3 (some .int), Cond.methodLink RX0 63 yX0_factOf, Cond.instanceMethod yX0_factOf, Cond.selects RX0 yX0_factOf yX0_factOf, Cond.code yX0_factOf cX0_factOf 3 (some .int), Cond.methodLink RX0 113 yX0_hasGivenSquares, Cond.instanceMethod yX0_hasGivenSquares, Cond.selects RX0 yX0_hasGivenSquares yX0_hasGivenSquares, Cond.code yX0_hasGivenSquares cX0_hasGivenSquares 3 (some .boolean), Cond.methodLink RX0 83 yX0_countUpTo, Cond.instanceMethod yX0_countUpTo, Cond.selects RX0 yX0_countUpTo yX0_countUpTo, Cond.code yX0_countUpTo cX0_countUpTo 2 (some .int), Cond.methodLink RX0 67 yX0_isPosition, Cond.instanceMethod yX0_isPosition, Cond.selects RX0 yX0_isPosition yX0_isPosition]
def wsL_law0_r5 : List Cond := [Cond.code yX0_isPosition cX0_isPosition 2 (some .boolean), Cond.methodLink RX0 97 yX0_countGiven, Cond.instanceMethod yX0_countGiven, Cond.selects RX0 yX0_countGiven yX0_countGiven, Cond.code yX0_countGiven cX0_countGiven 4 (some .int), Cond.methodLink RX0 122 yX0_manGiven, Cond.instanceMethod yX0_manGiven, Cond.selects RX0 yX0_manGiven yX0_manGiven, Cond.code yX0_manGiven cX0_manGiven 2 (some .int), Cond.methodLink RX0 100 yX0_isGivenDead, Cond.instanceMethod yX0_isGivenDead, Cond.selects RX0 yX0_isGivenDead yX0_isGivenDead, Cond.code yX0_isGivenDead cX0_isGivenDead 4 (some .boolean), Cond.methodLink RX0 116 yX0_firstSquareGiven, Cond.instanceMethod yX0_firstSquareGiven, Cond.selects RX0 yX0_firstSquareGiven yX0_firstSquareGiven, Cond.code yX0_firstSquareGiven cX0_firstSquareGiven 3 (some .int), Cond.methodLink RX0 119 yX0_colourOf, Cond.static yX0_colourOf, Cond.code yX0_colourOf cX0_colourOf 3 (some .int), Cond.methodLink RX0 103 yX0_judge, Cond.static yX0_judge, Cond.code yX0_judge cX0_judge 5 (some .int), Cond.methodLink RL 51 yX1_begin]
def wsL_law0_r6 : List Cond := [Cond.instanceMethod yX1_begin, Cond.selects RX1 yX1_begin yX1_begin, Cond.code yX1_begin cX1_begin 5 (some .int), Cond.fieldLink RX1 53 "GameArbiterModel" "many" "I", Cond.methodLink RX1 60 yX1_isState, Cond.static yX1_isState, Cond.code yX1_isState cX1_isState 2 (some .boolean), Cond.methodLink RX1 63 yX1_add, Cond.instanceMethod yX1_add, Cond.selects RX1 yX1_add yX1_add, Cond.code yX1_add cX1_add 6 (some .int), Cond.methodLink RX1 56 yX1_verdictOf, Cond.instanceMethod yX1_verdictOf, Cond.selects RX1 yX1_verdictOf yX1_verdictOf, Cond.code yX1_verdictOf cX1_verdictOf 5 (some .int), Cond.methodLink RX1 45 yX1_countOf, Cond.instanceMethod yX1_countOf, Cond.selects RX1 yX1_countOf yX1_countOf, Cond.code yX1_countOf cX1_countOf 4 (some .int), Cond.methodLink RX1 34 yX1_isSame, Cond.instanceMethod yX1_isSame, Cond.selects RX1 yX1_isSame yX1_isSame, Cond.code yX1_isSame cX1_isSame 5 (some .boolean), Cond.methodLink RX1 49 yX1_isDead]
def wsL_law0_r7 : List Cond := [Cond.instanceMethod yX1_isDead, Cond.selects RX1 yX1_isDead yX1_isDead, Cond.code yX1_isDead cX1_isDead 6 (some .boolean), Cond.methodLink RX1 38 yX1_howMany, Cond.instanceMethod yX1_howMany, Cond.selects RX1 yX1_howMany yX1_howMany, Cond.code yX1_howMany cX1_howMany 5 (some .int), Cond.methodLink RX1 42 yX1_colour, Cond.instanceMethod yX1_colour, Cond.selects RX1 yX1_colour yX1_colour, Cond.code yX1_colour cX1_colour 5 (some .int), Cond.methodLink RL 52 yX1_thrown, Cond.instanceMethod yX1_thrown, Cond.selects RX1 yX1_thrown yX1_thrown, Cond.code yX1_thrown cX1_thrown 1 (some .int), Cond.methodLink RL 56 yL_next, Cond.static yL_next, Cond.codeWith yL_next cL_next 7 (some .int) [(0, 14, 17, 19), (0, 14, 21, 13)], Cond.classLink RL 19 "java/lang/IllegalStateException", Cond.methodLink RL 15 yX0_next, Cond.instanceMethod yX0_next, Cond.selects RX0 yX0_next yX0_next, Cond.code yX0_next cX0_next 6 (some .int), Cond.classLink RX0 56 "java/lang/IllegalStateException"]
def wsL_law0_r8 : List Cond := [Cond.initialized "java/lang/IllegalStateException", Cond.methodLink RX0 52 yX0_takesAnother, Cond.instanceMethod yX0_takesAnother, Cond.selects RX0 yX0_takesAnother yX0_takesAnother, Cond.code yX0_takesAnother cX0_takesAnother 2 (some .boolean), Cond.methodLink RL 59 yX1_next, Cond.instanceMethod yX1_next, Cond.selects RX1 yX1_next yX1_next, Cond.code yX1_next cX1_next 6 (some .int), Cond.methodLink RL 60 yX0_back, Cond.instanceMethod yX0_back, Cond.selects RX0 yX0_back yX0_back, Cond.code yX0_back cX0_back 1 (some .boolean), Cond.methodLink RL 64 yX1_back, Cond.instanceMethod yX1_back, Cond.selects RX1 yX1_back yX1_back, Cond.code yX1_back cX1_back 1 (some .boolean), Cond.methodLink RL 65 yX0_verdict, Cond.instanceMethod yX0_verdict, Cond.selects RX0 yX0_verdict yX0_verdict, Cond.code yX0_verdict cX0_verdict 1 (some .int), Cond.methodLink RL 68 yX1_verdict, Cond.instanceMethod yX1_verdict, Cond.selects RX1 yX1_verdict yX1_verdict]
def wsL_law0_r9 : List Cond := [Cond.code yX1_verdict cX1_verdict 1 (some .int), Cond.methodLink RL 69 yL_of, Cond.static yL_of, Cond.codeWith yL_of cL_of 5 (some .int) [(0, 10, 13, 25)], Cond.classLink RL 25 "java/lang/IndexOutOfBoundsException", Cond.methodLink RL 21 yX0_of, Cond.instanceMethod yX0_of, Cond.selects RX0 yX0_of yX0_of, Cond.code yX0_of cX0_of 3 (some .int), Cond.classLink RX0 70 "java/lang/IndexOutOfBoundsException", Cond.initialized "java/lang/IndexOutOfBoundsException", Cond.methodLink RL 72 yX1_of, Cond.instanceMethod yX1_of, Cond.selects RX1 yX1_of yX1_of, Cond.code yX1_of cX1_of 7 (some .int), Cond.methodLink RX1 67 yX1_isIn, Cond.instanceMethod yX1_isIn, Cond.selects RX1 yX1_isIn yX1_isIn, Cond.code yX1_isIn cX1_isIn 2 (some .boolean), Cond.methodLink RL 73 yL_men, Cond.static yL_men, Cond.codeWith yL_men cL_men 5 (some .int) [(0, 9, 12, 25)], Cond.methodLink RL 27 yX0_men, Cond.instanceMethod yX0_men]
def wsL_law0_r10 : List Cond := [Cond.selects RX0 yX0_men yX0_men, Cond.code yX0_men cX0_men 3 (some .long), Cond.methodLink RL 75 yX1_men, Cond.instanceMethod yX1_men, Cond.selects RX1 yX1_men yX1_men, Cond.code yX1_men cX1_men 6 (some .long), Cond.methodLink RL 76 yL_times, Cond.static yL_times, Cond.codeWith yL_times cL_times 4 (some .int) [(0, 9, 12, 13)], Cond.methodLink RL 31 yX0_times, Cond.instanceMethod yX0_times, Cond.selects RX0 yX0_times yX0_times, Cond.code yX0_times cX0_times 2 (some .int), Cond.methodLink RL 79 yX1_times, Cond.instanceMethod yX1_times, Cond.selects RX1 yX1_times yX1_times, Cond.code yX1_times cX1_times 4 (some .int), Cond.methodLink RX1 70 yX1_isNext, Cond.instanceMethod yX1_isNext, Cond.selects RX1 yX1_isNext yX1_isNext, Cond.code yX1_isNext cX1_isNext 5 (some .boolean), Cond.methodLink RL 80 yX0_look, Cond.instanceMethod yX0_look, Cond.selects RX0 yX0_look yX0_look]
def wsL_law0_r11 : List Cond := [Cond.code yX0_look cX0_look 2 (some .int), Cond.methodLink RX0 86 yX0_differentPositions, Cond.instanceMethod yX0_differentPositions, Cond.selects RX0 yX0_differentPositions yX0_differentPositions, Cond.code yX0_differentPositions cX0_differentPositions 3 (some .int), Cond.methodLink RX0 90 yX0_greatest, Cond.instanceMethod yX0_greatest, Cond.selects RX0 yX0_greatest yX0_greatest, Cond.code yX0_greatest cX0_greatest 4 (some .int), Cond.methodLink RX0 125 Lib.Math.max.name, Cond.static Lib.Math.max.name, Cond.initialized "java/lang/Math", Cond.code Lib.Math.max.name Lib.Math.max.code 2 (some .int), Cond.methodLink RL 83 yX1_look, Cond.instanceMethod yX1_look, Cond.selects RX1 yX1_look yX1_look, Cond.code yX1_look cX1_look 7 (some .int)]
def wsL_law0 : List Cond := (wsL_law0_r1 ++ (wsL_law0_r2 ++ (wsL_law0_r3 ++ (wsL_law0_r4 ++ (wsL_law0_r5 ++ (wsL_law0_r6 ++ (wsL_law0_r7 ++ (wsL_law0_r8 ++ (wsL_law0_r9 ++ (wsL_law0_r10 ++ wsL_law0_r11)))))))))) ++ wsX00 ++ wsX10 ++ ([] : List Cond)
def wsL_law : List Cond := wsL_law0 ++ (vx_atS RX0 45 "java/lang/IllegalArgumentException" ["java/lang/RuntimeException", "java/lang/Exception"]).filter goodWord ++ (vx_atS RX0 60 "java/lang/IllegalStateException" ["java/lang/RuntimeException", "java/lang/Exception"]).filter goodWord ++ (vx_atS RX0 74 "java/lang/IndexOutOfBoundsException" ["java/lang/RuntimeException", "java/lang/Exception"]).filter goodWord
set_option maxRecDepth 20000 in
theorem wsL_law_in0 : ∀ w ∈ wsL_law0, w ∈ lw_tbl := fun w h => (goodIn_p wsL_law0 [38, 41, 300, 60, 63, 66, 69, 332, 104, 107, 110, 113, 185, 189, 81, 193, 197, 201, 205, 209, 213, 217, 220, 223, 338, 341, 345, 349, 353, 357, 361, 365, 369, 328, 234, 238, 373, 73, 377, 77, 381, 263, 385, 389, 286, 393, 294, 397, 401, 85, 89, 93, 96, 405] (by decide +kernel) (by decide +kernel) w h).1
theorem wsL_law_x0 : ∀ w ∈ (vx_atS RX0 45 "java/lang/IllegalArgumentException" ["java/lang/RuntimeException", "java/lang/Exception"]).filter goodWord, w ∈ lw_tbl := by decide +kernel
theorem wsL_law_x1 : ∀ w ∈ (vx_atS RX0 60 "java/lang/IllegalStateException" ["java/lang/RuntimeException", "java/lang/Exception"]).filter goodWord, w ∈ lw_tbl := by decide +kernel
theorem wsL_law_x2 : ∀ w ∈ (vx_atS RX0 74 "java/lang/IndexOutOfBoundsException" ["java/lang/RuntimeException", "java/lang/Exception"]).filter goodWord, w ∈ lw_tbl := by decide +kernel
theorem wsL_law_in : ∀ w ∈ wsL_law, w ∈ lw_tbl := fun w h => (List.mem_append.mp h).elim (fun h => (List.mem_append.mp h).elim (fun h => (List.mem_append.mp h).elim (fun h => wsL_law_in0 w h) (fun h => wsL_law_x0 w h)) (fun h => wsL_law_x1 w h)) (fun h => wsL_law_x2 w h)
theorem inlX0 : ∀ w ∈ wsX00, w ∈ wsL_law := fun _ h => List.mem_append_left _ (List.mem_append_left _ (List.mem_append_left _ (List.mem_append_left _ (List.mem_append_left _ (List.mem_append_right _ h)))))
theorem inX0 : ∀ w ∈ wsX00, w ∈ lw_tbl := fun w h => wsL_law_in w (inlX0 w h)
theorem inlX1 : ∀ w ∈ wsX10, w ∈ wsL_law := fun _ h => List.mem_append_left _ (List.mem_append_left _ (List.mem_append_left _ (List.mem_append_left _ (List.mem_append_right _ h))))
theorem inX1 : ∀ w ∈ wsX10, w ∈ lw_tbl := fun w h => wsL_law_in w (inlX1 w h)
theorem inJ9 : ∀ w ∈ wsJ90, w ∈ lw_tbl := by decide +kernel
theorem inJ0 : ∀ w ∈ wsJ00, w ∈ lw_tbl := by decide +kernel
theorem inJ10 : ∀ w ∈ wsJ100, w ∈ lw_tbl := by decide +kernel
theorem dX0_init_0 : decode cX0_init 0 = .ok (.aload_n 0, 1) := by decide +kernel
theorem dX0_init_1 : decode cX0_init 1 = .ok (.invokespecial 1, 3) := by decide +kernel
theorem dX0_init_4 : decode cX0_init 4 = .ok (.aload_n 0, 1) := by decide +kernel
theorem dX0_init_5 : decode cX0_init 5 = .ok (.iconst 4, 1) := by decide +kernel
theorem dX0_init_6 : decode cX0_init 6 = .ok (.newarray .long, 2) := by decide +kernel
theorem dX0_init_8 : decode cX0_init 8 = .ok (.putfield 9, 3) := by decide +kernel
theorem dX0_init_11 : decode cX0_init 11 = .ok (.aload_n 0, 1) := by decide +kernel
theorem dX0_init_12 : decode cX0_init 12 = .ok (.sipush 2560, 3) := by decide +kernel
theorem dX0_init_15 : decode cX0_init 15 = .ok (.newarray .long, 2) := by decide +kernel
theorem dX0_init_17 : decode cX0_init 17 = .ok (.putfield 13, 3) := by decide +kernel
theorem dX0_init_20 : decode cX0_init 20 = .ok (.aload_n 0, 1) := by decide +kernel
theorem dX0_init_21 : decode cX0_init 21 = .ok (.sipush 5120, 3) := by decide +kernel
theorem dX0_init_24 : decode cX0_init 24 = .ok (.newarray .int, 2) := by decide +kernel
theorem dX0_init_26 : decode cX0_init 26 = .ok (.putfield 16, 3) := by decide +kernel
theorem dX0_init_29 : decode cX0_init 29 = .ok (.aload_n 0, 1) := by decide +kernel
theorem dX0_init_30 : decode cX0_init 30 = .ok (.iconst 0, 1) := by decide +kernel
theorem dX0_init_31 : decode cX0_init 31 = .ok (.putfield 20, 3) := by decide +kernel
theorem dX0_init_34 : decode cX0_init 34 = .ok (.return_, 1) := by decide +kernel
set_option maxRecDepth 20000 in
theorem ggX0_squares_X0_isPart : GoodIn wsX0_squares wsX0_isPart := goodIn_r _ [5] (by decide +kernel) (by decide +kernel)
set_option maxRecDepth 20000 in
theorem gX0_squares_X0_isPart : GoodIn wsX0_squares (va_wsS RX0 24 yX0_isPart wsX0_isPart) := goodIn_app (goodIn_of _ (by decide +kernel)) ggX0_squares_X0_isPart
set_option maxRecDepth 20000 in
theorem ggX0_squares_X0_areMen : GoodIn wsX0_squares wsX0_areMen := goodIn_r _ [8, 9, 10, 4, 11] (by decide +kernel) (by decide +kernel)
set_option maxRecDepth 20000 in
theorem gX0_squares_X0_areMen : GoodIn wsX0_squares (va_wsS RX0 28 yX0_areMen wsX0_areMen) := goodIn_app (goodIn_of _ (by decide +kernel)) ggX0_squares_X0_areMen
theorem dX0_squares_0 : decode cX0_squares 0 = .ok (.iload_n 1, 1) := by decide +kernel
theorem dX0_squares_1 : decode cX0_squares 1 = .ok (.invokestatic 24, 3) := by decide +kernel
theorem dX0_squares_4 : decode cX0_squares 4 = .ok (.ifCond .eq 10, 3) := by decide +kernel
theorem dX0_squares_7 : decode cX0_squares 7 = .ok (.lload_n 2, 1) := by decide +kernel
theorem dX0_squares_8 : decode cX0_squares 8 = .ok (.invokestatic 28, 3) := by decide +kernel
theorem dX0_squares_11 : decode cX0_squares 11 = .ok (.ifCond .ne 5, 3) := by decide +kernel
theorem dX0_squares_14 : decode cX0_squares 14 = .ok (.iconst 0, 1) := by decide +kernel
theorem dX0_squares_15 : decode cX0_squares 15 = .ok (.ireturn, 1) := by decide +kernel
theorem dX0_squares_16 : decode cX0_squares 16 = .ok (.aload_n 0, 1) := by decide +kernel
theorem dX0_squares_17 : decode cX0_squares 17 = .ok (.getfield 9, 3) := by decide +kernel
theorem dX0_squares_20 : decode cX0_squares 20 = .ok (.iload_n 1, 1) := by decide +kernel
theorem dX0_squares_21 : decode cX0_squares 21 = .ok (.lload_n 2, 1) := by decide +kernel
theorem dX0_squares_22 : decode cX0_squares 22 = .ok (.lastore, 1) := by decide +kernel
theorem dX0_squares_23 : decode cX0_squares 23 = .ok (.iconst 1, 1) := by decide +kernel
theorem dX0_squares_24 : decode cX0_squares 24 = .ok (.ireturn, 1) := by decide +kernel
set_option maxRecDepth 20000 in
theorem ggX0_begin_X0_isState : GoodIn wsX0_begin wsX0_isState := goodIn_r _ [7] (by decide +kernel) (by decide +kernel)
set_option maxRecDepth 20000 in
theorem gX0_begin_X0_isState : GoodIn wsX0_begin (va_wsS RX0 32 yX0_isState wsX0_isState) := goodIn_app (goodIn_of _ (by decide +kernel)) ggX0_begin_X0_isState
set_option maxRecDepth 20000 in
theorem ggX0_begin_X0_isMoves : GoodIn wsX0_begin wsX0_isMoves := goodIn_r _ [10] (by decide +kernel) (by decide +kernel)
set_option maxRecDepth 20000 in
theorem gX0_begin_X0_isMoves : GoodIn wsX0_begin (va_wsS RX0 35 yX0_isMoves wsX0_isMoves) := goodIn_app (goodIn_of _ (by decide +kernel)) ggX0_begin_X0_isMoves
set_option maxRecDepth 20000 in
theorem ggX0_begin_X0_isClock : GoodIn wsX0_begin wsX0_isClock := goodIn_r _ [13] (by decide +kernel) (by decide +kernel)
set_option maxRecDepth 20000 in
theorem gX0_begin_X0_isClock : GoodIn wsX0_begin (va_wsS RX0 38 yX0_isClock wsX0_isClock) := goodIn_app (goodIn_of _ (by decide +kernel)) ggX0_begin_X0_isClock
set_option maxRecDepth 20000 in
theorem ggX0_begin_X0_append : GoodIn wsX0_begin wsX0_append := goodIn_r _ [17, 3, 18, 19, 20, 21, 22, 23, 24, 25, 26, 27, 6, 28, 29, 30, 31, 32, 33, 34, 35, 36, 37, 38, 39, 40, 41, 42, 43, 44, 45, 46, 47, 48, 49, 50, 51, 52, 53, 54, 55, 56, 57, 58, 59, 60, 61, 62, 63, 64, 65, 66, 67, 68, 69, 70, 71, 72, 73] (by decide +kernel) (by decide +kernel)
set_option maxRecDepth 20000 in
theorem gX0_begin_X0_append : GoodIn wsX0_begin (wsV RX0 48 RX0 yX0_append wsX0_append) := goodIn_app (goodIn_of _ (by decide +kernel)) ggX0_begin_X0_append
theorem dX0_begin_0 : decode cX0_begin 0 = .ok (.iload_n 1, 1) := by decide +kernel
theorem dX0_begin_1 : decode cX0_begin 1 = .ok (.invokestatic 32, 3) := by decide +kernel
theorem dX0_begin_4 : decode cX0_begin 4 = .ok (.ifCond .eq 18, 3) := by decide +kernel
theorem dX0_begin_7 : decode cX0_begin 7 = .ok (.iload_n 2, 1) := by decide +kernel
theorem dX0_begin_8 : decode cX0_begin 8 = .ok (.invokestatic 35, 3) := by decide +kernel
theorem dX0_begin_11 : decode cX0_begin 11 = .ok (.ifCond .eq 11, 3) := by decide +kernel
theorem dX0_begin_14 : decode cX0_begin 14 = .ok (.iload 4, 2) := by decide +kernel
theorem dX0_begin_16 : decode cX0_begin 16 = .ok (.invokestatic 38, 3) := by decide +kernel
theorem dX0_begin_19 : decode cX0_begin 19 = .ok (.ifCond .ne 13, 3) := by decide +kernel
theorem dX0_begin_22 : decode cX0_begin 22 = .ok (.new 41, 3) := by decide +kernel
theorem dX0_begin_25 : decode cX0_begin 25 = .ok (.dup, 1) := by decide +kernel
theorem dX0_begin_26 : decode cX0_begin 26 = .ok (.ldc 43, 2) := by decide +kernel
theorem dX0_begin_28 : decode cX0_begin 28 = .ok (.invokespecial 45, 3) := by decide +kernel
theorem dX0_begin_31 : decode cX0_begin 31 = .ok (.athrow, 1) := by decide +kernel
theorem dX0_begin_32 : decode cX0_begin 32 = .ok (.aload_n 0, 1) := by decide +kernel
theorem dX0_begin_33 : decode cX0_begin 33 = .ok (.iconst 0, 1) := by decide +kernel
theorem dX0_begin_34 : decode cX0_begin 34 = .ok (.putfield 20, 3) := by decide +kernel
theorem dX0_begin_37 : decode cX0_begin 37 = .ok (.aload_n 0, 1) := by decide +kernel
theorem dX0_begin_38 : decode cX0_begin 38 = .ok (.iload_n 1, 1) := by decide +kernel
theorem dX0_begin_39 : decode cX0_begin 39 = .ok (.iload_n 2, 1) := by decide +kernel
theorem dX0_begin_40 : decode cX0_begin 40 = .ok (.iload_n 3, 1) := by decide +kernel
theorem dX0_begin_41 : decode cX0_begin 41 = .ok (.iload 4, 2) := by decide +kernel
theorem dX0_begin_43 : decode cX0_begin 43 = .ok (.invokevirtual 48, 3) := by decide +kernel
theorem dX0_begin_46 : decode cX0_begin 46 = .ok (.ireturn, 1) := by decide +kernel
set_option maxRecDepth 20000 in
theorem ggX0_next_X0_takesAnother : GoodIn wsX0_next wsX0_takesAnother := goodIn_r _ [10, 5, 11, 12, 13, 9, 14, 15, 73, 74, 75, 76] (by decide +kernel) (by decide +kernel)
set_option maxRecDepth 20000 in
theorem gX0_next_X0_takesAnother : GoodIn wsX0_next (wsV RX0 52 RX0 yX0_takesAnother wsX0_takesAnother) := goodIn_app (goodIn_of _ (by decide +kernel)) ggX0_next_X0_takesAnother
set_option maxRecDepth 20000 in
theorem ggX0_next_X0_isState : GoodIn wsX0_next wsX0_isState := goodIn_r _ [18] (by decide +kernel) (by decide +kernel)
set_option maxRecDepth 20000 in
theorem gX0_next_X0_isState : GoodIn wsX0_next (va_wsS RX0 32 yX0_isState wsX0_isState) := goodIn_app (goodIn_of _ (by decide +kernel)) ggX0_next_X0_isState
set_option maxRecDepth 20000 in
theorem ggX0_next_X0_isMoves : GoodIn wsX0_next wsX0_isMoves := goodIn_r _ [21] (by decide +kernel) (by decide +kernel)
set_option maxRecDepth 20000 in
theorem gX0_next_X0_isMoves : GoodIn wsX0_next (va_wsS RX0 35 yX0_isMoves wsX0_isMoves) := goodIn_app (goodIn_of _ (by decide +kernel)) ggX0_next_X0_isMoves
set_option maxRecDepth 20000 in
theorem ggX0_next_X0_factOf : GoodIn wsX0_next wsX0_factOf := goodIn_r _ [14, 15, 73, 74, 75, 76] (by decide +kernel) (by decide +kernel)
set_option maxRecDepth 20000 in
theorem gX0_next_X0_factOf : GoodIn wsX0_next (wsV RX0 63 RX0 yX0_factOf wsX0_factOf) := goodIn_app (goodIn_of _ (by decide +kernel)) ggX0_next_X0_factOf
set_option maxRecDepth 20000 in
theorem ggX0_next_X0_append : GoodIn wsX0_next wsX0_append := goodIn_r _ [25, 5, 15, 26, 27, 28, 29, 30, 31, 32, 33, 34, 9, 35, 11, 12, 13, 14, 36, 37, 38, 39, 40, 41, 42, 43, 44, 45, 46, 47, 48, 49, 50, 51, 52, 53, 54, 55, 56, 57, 58, 59, 60, 61, 62, 63, 64, 65, 66, 67, 68, 69, 70, 71, 72, 73, 74, 75, 76] (by decide +kernel) (by decide +kernel)
set_option maxRecDepth 20000 in
theorem gX0_next_X0_append : GoodIn wsX0_next (wsV RX0 48 RX0 yX0_append wsX0_append) := goodIn_app (goodIn_of _ (by decide +kernel)) ggX0_next_X0_append
theorem dX0_next_0 : decode cX0_next 0 = .ok (.aload_n 0, 1) := by decide +kernel
theorem dX0_next_1 : decode cX0_next 1 = .ok (.invokevirtual 52, 3) := by decide +kernel
theorem dX0_next_4 : decode cX0_next 4 = .ok (.ifCond .ne 13, 3) := by decide +kernel
theorem dX0_next_7 : decode cX0_next 7 = .ok (.new 56, 3) := by decide +kernel
theorem dX0_next_10 : decode cX0_next 10 = .ok (.dup, 1) := by decide +kernel
theorem dX0_next_11 : decode cX0_next 11 = .ok (.ldc 58, 2) := by decide +kernel
theorem dX0_next_13 : decode cX0_next 13 = .ok (.invokespecial 60, 3) := by decide +kernel
theorem dX0_next_16 : decode cX0_next 16 = .ok (.athrow, 1) := by decide +kernel
theorem dX0_next_17 : decode cX0_next 17 = .ok (.iload_n 1, 1) := by decide +kernel
theorem dX0_next_18 : decode cX0_next 18 = .ok (.invokestatic 32, 3) := by decide +kernel
theorem dX0_next_21 : decode cX0_next 21 = .ok (.ifCond .eq 10, 3) := by decide +kernel
theorem dX0_next_24 : decode cX0_next 24 = .ok (.iload_n 2, 1) := by decide +kernel
theorem dX0_next_25 : decode cX0_next 25 = .ok (.invokestatic 35, 3) := by decide +kernel
theorem dX0_next_28 : decode cX0_next 28 = .ok (.ifCond .ne 13, 3) := by decide +kernel
theorem dX0_next_31 : decode cX0_next 31 = .ok (.new 41, 3) := by decide +kernel
theorem dX0_next_34 : decode cX0_next 34 = .ok (.dup, 1) := by decide +kernel
theorem dX0_next_35 : decode cX0_next 35 = .ok (.ldc 61, 2) := by decide +kernel
theorem dX0_next_37 : decode cX0_next 37 = .ok (.invokespecial 45, 3) := by decide +kernel
theorem dX0_next_40 : decode cX0_next 40 = .ok (.athrow, 1) := by decide +kernel
theorem dX0_next_41 : decode cX0_next 41 = .ok (.iload 4, 2) := by decide +kernel
theorem dX0_next_43 : decode cX0_next 43 = .ok (.ifCond .eq 7, 3) := by decide +kernel
theorem dX0_next_46 : decode cX0_next 46 = .ok (.iconst 0, 1) := by decide +kernel
theorem dX0_next_47 : decode cX0_next 47 = .ok (.goto 16, 3) := by decide +kernel
theorem dX0_next_50 : decode cX0_next 50 = .ok (.aload_n 0, 1) := by decide +kernel
theorem dX0_next_51 : decode cX0_next 51 = .ok (.aload_n 0, 1) := by decide +kernel
theorem dX0_next_52 : decode cX0_next 52 = .ok (.getfield 20, 3) := by decide +kernel
theorem dX0_next_55 : decode cX0_next 55 = .ok (.iconst 1, 1) := by decide +kernel
theorem dX0_next_56 : decode cX0_next 56 = .ok (.isub, 1) := by decide +kernel
theorem dX0_next_57 : decode cX0_next 57 = .ok (.iconst 1, 1) := by decide +kernel
theorem dX0_next_58 : decode cX0_next 58 = .ok (.invokevirtual 63, 3) := by decide +kernel
theorem dX0_next_61 : decode cX0_next 61 = .ok (.iconst 1, 1) := by decide +kernel
theorem dX0_next_62 : decode cX0_next 62 = .ok (.iadd, 1) := by decide +kernel
theorem dX0_next_63 : decode cX0_next 63 = .ok (.istore 5, 2) := by decide +kernel
theorem dX0_next_65 : decode cX0_next 65 = .ok (.aload_n 0, 1) := by decide +kernel
theorem dX0_next_66 : decode cX0_next 66 = .ok (.iload_n 1, 1) := by decide +kernel
theorem dX0_next_67 : decode cX0_next 67 = .ok (.iload_n 2, 1) := by decide +kernel
theorem dX0_next_68 : decode cX0_next 68 = .ok (.iload_n 3, 1) := by decide +kernel
theorem dX0_next_69 : decode cX0_next 69 = .ok (.iload 5, 2) := by decide +kernel
theorem dX0_next_71 : decode cX0_next 71 = .ok (.invokevirtual 48, 3) := by decide +kernel
theorem dX0_next_74 : decode cX0_next 74 = .ok (.ireturn, 1) := by decide +kernel
theorem dX0_back_0 : decode cX0_back 0 = .ok (.aload_n 0, 1) := by decide +kernel
theorem dX0_back_1 : decode cX0_back 1 = .ok (.getfield 20, 3) := by decide +kernel
theorem dX0_back_4 : decode cX0_back 4 = .ok (.ifCond .ne 5, 3) := by decide +kernel
theorem dX0_back_7 : decode cX0_back 7 = .ok (.iconst 0, 1) := by decide +kernel
theorem dX0_back_8 : decode cX0_back 8 = .ok (.ireturn, 1) := by decide +kernel
theorem dX0_back_9 : decode cX0_back 9 = .ok (.aload_n 0, 1) := by decide +kernel
theorem dX0_back_10 : decode cX0_back 10 = .ok (.dup, 1) := by decide +kernel
theorem dX0_back_11 : decode cX0_back 11 = .ok (.getfield 20, 3) := by decide +kernel
theorem dX0_back_14 : decode cX0_back 14 = .ok (.iconst 1, 1) := by decide +kernel
theorem dX0_back_15 : decode cX0_back 15 = .ok (.isub, 1) := by decide +kernel
theorem dX0_back_16 : decode cX0_back 16 = .ok (.putfield 20, 3) := by decide +kernel
theorem dX0_back_19 : decode cX0_back 19 = .ok (.iconst 1, 1) := by decide +kernel
theorem dX0_back_20 : decode cX0_back 20 = .ok (.ireturn, 1) := by decide +kernel
set_option maxRecDepth 20000 in
theorem ggX0_verdict_X0_factOf : GoodIn wsX0_verdict wsX0_factOf := goodIn_r _ [6, 7, 8, 9, 10, 11] (by decide +kernel) (by decide +kernel)
set_option maxRecDepth 20000 in
theorem gX0_verdict_X0_factOf : GoodIn wsX0_verdict (wsV RX0 63 RX0 yX0_factOf wsX0_factOf) := goodIn_app (goodIn_of _ (by decide +kernel)) ggX0_verdict_X0_factOf
theorem dX0_verdict_0 : decode cX0_verdict 0 = .ok (.aload_n 0, 1) := by decide +kernel
theorem dX0_verdict_1 : decode cX0_verdict 1 = .ok (.getfield 20, 3) := by decide +kernel
theorem dX0_verdict_4 : decode cX0_verdict 4 = .ok (.ifCond .ne 7, 3) := by decide +kernel
theorem dX0_verdict_7 : decode cX0_verdict 7 = .ok (.iconst (-1), 1) := by decide +kernel
theorem dX0_verdict_8 : decode cX0_verdict 8 = .ok (.goto 14, 3) := by decide +kernel
theorem dX0_verdict_11 : decode cX0_verdict 11 = .ok (.aload_n 0, 1) := by decide +kernel
theorem dX0_verdict_12 : decode cX0_verdict 12 = .ok (.aload_n 0, 1) := by decide +kernel
theorem dX0_verdict_13 : decode cX0_verdict 13 = .ok (.getfield 20, 3) := by decide +kernel
theorem dX0_verdict_16 : decode cX0_verdict 16 = .ok (.iconst 1, 1) := by decide +kernel
theorem dX0_verdict_17 : decode cX0_verdict 17 = .ok (.isub, 1) := by decide +kernel
theorem dX0_verdict_18 : decode cX0_verdict 18 = .ok (.iconst 2, 1) := by decide +kernel
theorem dX0_verdict_19 : decode cX0_verdict 19 = .ok (.invokevirtual 63, 3) := by decide +kernel
theorem dX0_verdict_22 : decode cX0_verdict 22 = .ok (.ireturn, 1) := by decide +kernel
set_option maxRecDepth 20000 in
theorem ggX0_of_X0_isPosition : GoodIn wsX0_of wsX0_isPosition := goodIn_r _ [7, 8, 14, 15, 16, 17] (by decide +kernel) (by decide +kernel)
set_option maxRecDepth 20000 in
theorem gX0_of_X0_isPosition : GoodIn wsX0_of (wsV RX0 67 RX0 yX0_isPosition wsX0_isPosition) := goodIn_app (goodIn_of _ (by decide +kernel)) ggX0_of_X0_isPosition
set_option maxRecDepth 20000 in
theorem ggX0_of_X0_factOf : GoodIn wsX0_of wsX0_factOf := goodIn_r _ [12, 13, 14, 15, 16, 17] (by decide +kernel) (by decide +kernel)
set_option maxRecDepth 20000 in
theorem gX0_of_X0_factOf : GoodIn wsX0_of (wsV RX0 63 RX0 yX0_factOf wsX0_factOf) := goodIn_app (goodIn_of _ (by decide +kernel)) ggX0_of_X0_factOf
theorem dX0_of_0 : decode cX0_of 0 = .ok (.aload_n 0, 1) := by decide +kernel
theorem dX0_of_1 : decode cX0_of 1 = .ok (.iload_n 1, 1) := by decide +kernel
theorem dX0_of_2 : decode cX0_of 2 = .ok (.invokevirtual 67, 3) := by decide +kernel
theorem dX0_of_5 : decode cX0_of 5 = .ok (.ifCond .eq 13, 3) := by decide +kernel
theorem dX0_of_8 : decode cX0_of 8 = .ok (.iload_n 2, 1) := by decide +kernel
theorem dX0_of_9 : decode cX0_of 9 = .ok (.ifCond .lt 9, 3) := by decide +kernel
theorem dX0_of_12 : decode cX0_of 12 = .ok (.iload_n 2, 1) := by decide +kernel
theorem dX0_of_13 : decode cX0_of 13 = .ok (.bipush 8, 2) := by decide +kernel
theorem dX0_of_15 : decode cX0_of 15 = .ok (.if_icmp .lt 13, 3) := by decide +kernel
theorem dX0_of_18 : decode cX0_of 18 = .ok (.new 70, 3) := by decide +kernel
theorem dX0_of_21 : decode cX0_of 21 = .ok (.dup, 1) := by decide +kernel
theorem dX0_of_22 : decode cX0_of 22 = .ok (.ldc 72, 2) := by decide +kernel
theorem dX0_of_24 : decode cX0_of 24 = .ok (.invokespecial 74, 3) := by decide +kernel
theorem dX0_of_27 : decode cX0_of 27 = .ok (.athrow, 1) := by decide +kernel
theorem dX0_of_28 : decode cX0_of 28 = .ok (.aload_n 0, 1) := by decide +kernel
theorem dX0_of_29 : decode cX0_of 29 = .ok (.iload_n 1, 1) := by decide +kernel
theorem dX0_of_30 : decode cX0_of 30 = .ok (.iload_n 2, 1) := by decide +kernel
theorem dX0_of_31 : decode cX0_of 31 = .ok (.invokevirtual 63, 3) := by decide +kernel
theorem dX0_of_34 : decode cX0_of 34 = .ok (.ireturn, 1) := by decide +kernel
set_option maxRecDepth 20000 in
theorem ggX0_men_X0_isPosition : GoodIn wsX0_men wsX0_isPosition := goodIn_r _ [8, 9, 13, 14, 15, 16] (by decide +kernel) (by decide +kernel)
set_option maxRecDepth 20000 in
theorem gX0_men_X0_isPosition : GoodIn wsX0_men (wsV RX0 67 RX0 yX0_isPosition wsX0_isPosition) := goodIn_app (goodIn_of _ (by decide +kernel)) ggX0_men_X0_isPosition
set_option maxRecDepth 20000 in
theorem ggX0_men_X0_isPart : GoodIn wsX0_men wsX0_isPart := goodIn_r _ [12] (by decide +kernel) (by decide +kernel)
set_option maxRecDepth 20000 in
theorem gX0_men_X0_isPart : GoodIn wsX0_men (va_wsS RX0 24 yX0_isPart wsX0_isPart) := goodIn_app (goodIn_of _ (by decide +kernel)) ggX0_men_X0_isPart
theorem dX0_men_0 : decode cX0_men 0 = .ok (.aload_n 0, 1) := by decide +kernel
theorem dX0_men_1 : decode cX0_men 1 = .ok (.iload_n 1, 1) := by decide +kernel
theorem dX0_men_2 : decode cX0_men 2 = .ok (.invokevirtual 67, 3) := by decide +kernel
theorem dX0_men_5 : decode cX0_men 5 = .ok (.ifCond .eq 10, 3) := by decide +kernel
theorem dX0_men_8 : decode cX0_men 8 = .ok (.iload_n 2, 1) := by decide +kernel
theorem dX0_men_9 : decode cX0_men 9 = .ok (.invokestatic 24, 3) := by decide +kernel
theorem dX0_men_12 : decode cX0_men 12 = .ok (.ifCond .ne 13, 3) := by decide +kernel
theorem dX0_men_15 : decode cX0_men 15 = .ok (.new 70, 3) := by decide +kernel
theorem dX0_men_18 : decode cX0_men 18 = .ok (.dup, 1) := by decide +kernel
theorem dX0_men_19 : decode cX0_men 19 = .ok (.ldc 75, 2) := by decide +kernel
theorem dX0_men_21 : decode cX0_men 21 = .ok (.invokespecial 74, 3) := by decide +kernel
theorem dX0_men_24 : decode cX0_men 24 = .ok (.athrow, 1) := by decide +kernel
theorem dX0_men_25 : decode cX0_men 25 = .ok (.aload_n 0, 1) := by decide +kernel
theorem dX0_men_26 : decode cX0_men 26 = .ok (.getfield 13, 3) := by decide +kernel
theorem dX0_men_29 : decode cX0_men 29 = .ok (.iload_n 1, 1) := by decide +kernel
theorem dX0_men_30 : decode cX0_men 30 = .ok (.iconst 4, 1) := by decide +kernel
theorem dX0_men_31 : decode cX0_men 31 = .ok (.imul, 1) := by decide +kernel
theorem dX0_men_32 : decode cX0_men 32 = .ok (.iload_n 2, 1) := by decide +kernel
theorem dX0_men_33 : decode cX0_men 33 = .ok (.iadd, 1) := by decide +kernel
theorem dX0_men_34 : decode cX0_men 34 = .ok (.laload, 1) := by decide +kernel
theorem dX0_men_35 : decode cX0_men 35 = .ok (.lreturn, 1) := by decide +kernel
set_option maxRecDepth 20000 in
theorem ggX0_times_X0_isState : GoodIn wsX0_times wsX0_isState := goodIn_r _ [6] (by decide +kernel) (by decide +kernel)
set_option maxRecDepth 20000 in
theorem gX0_times_X0_isState : GoodIn wsX0_times (va_wsS RX0 32 yX0_isState wsX0_isState) := goodIn_app (goodIn_of _ (by decide +kernel)) ggX0_times_X0_isState
set_option maxRecDepth 20000 in
theorem ggX0_times_X0_lastSame : GoodIn wsX0_times wsX0_lastSame := goodIn_r _ [10, 11, 12, 13, 14, 5, 15, 16, 17, 18, 19, 20, 21, 22, 31, 32, 33, 34] (by decide +kernel) (by decide +kernel)
set_option maxRecDepth 20000 in
theorem gX0_times_X0_lastSame : GoodIn wsX0_times (wsV RX0 79 RX0 yX0_lastSame wsX0_lastSame) := goodIn_app (goodIn_of _ (by decide +kernel)) ggX0_times_X0_lastSame
set_option maxRecDepth 20000 in
theorem ggX0_times_X0_countUpTo : GoodIn wsX0_times wsX0_countUpTo := goodIn_r _ [26, 27, 28, 29, 5, 30, 11, 12, 13, 14, 15, 16, 31, 32, 33, 34] (by decide +kernel) (by decide +kernel)
set_option maxRecDepth 20000 in
theorem gX0_times_X0_countUpTo : GoodIn wsX0_times (wsV RX0 83 RX0 yX0_countUpTo wsX0_countUpTo) := goodIn_app (goodIn_of _ (by decide +kernel)) ggX0_times_X0_countUpTo
theorem dX0_times_0 : decode cX0_times 0 = .ok (.iload_n 1, 1) := by decide +kernel
theorem dX0_times_1 : decode cX0_times 1 = .ok (.invokestatic 32, 3) := by decide +kernel
theorem dX0_times_4 : decode cX0_times 4 = .ok (.ifCond .ne 13, 3) := by decide +kernel
theorem dX0_times_7 : decode cX0_times 7 = .ok (.new 41, 3) := by decide +kernel
theorem dX0_times_10 : decode cX0_times 10 = .ok (.dup, 1) := by decide +kernel
theorem dX0_times_11 : decode cX0_times 11 = .ok (.ldc 77, 2) := by decide +kernel
theorem dX0_times_13 : decode cX0_times 13 = .ok (.invokespecial 45, 3) := by decide +kernel
theorem dX0_times_16 : decode cX0_times 16 = .ok (.athrow, 1) := by decide +kernel
theorem dX0_times_17 : decode cX0_times 17 = .ok (.aload_n 0, 1) := by decide +kernel
theorem dX0_times_18 : decode cX0_times 18 = .ok (.aload_n 0, 1) := by decide +kernel
theorem dX0_times_19 : decode cX0_times 19 = .ok (.iload_n 1, 1) := by decide +kernel
theorem dX0_times_20 : decode cX0_times 20 = .ok (.invokevirtual 79, 3) := by decide +kernel
theorem dX0_times_23 : decode cX0_times 23 = .ok (.invokevirtual 83, 3) := by decide +kernel
theorem dX0_times_26 : decode cX0_times 26 = .ok (.ireturn, 1) := by decide +kernel
set_option maxRecDepth 20000 in
theorem ggX0_look_X0_differentPositions : GoodIn wsX0_look wsX0_differentPositions := goodIn_r _ [6, 1, 7, 8, 9, 5, 10, 11, 20, 21, 22, 23] (by decide +kernel) (by decide +kernel)
set_option maxRecDepth 20000 in
theorem gX0_look_X0_differentPositions : GoodIn wsX0_look (wsV RX0 86 RX0 yX0_differentPositions wsX0_differentPositions) := goodIn_app (goodIn_of _ (by decide +kernel)) ggX0_look_X0_differentPositions
set_option maxRecDepth 20000 in
theorem ggX0_look_X0_greatest : GoodIn wsX0_look wsX0_greatest := goodIn_r _ [15, 1, 16, 17, 18, 19, 7, 8, 9, 5, 10, 11, 20, 21, 22, 23] (by decide +kernel) (by decide +kernel)
set_option maxRecDepth 20000 in
theorem gX0_look_X0_greatest : GoodIn wsX0_look (wsV RX0 90 RX0 yX0_greatest wsX0_greatest) := goodIn_app (goodIn_of _ (by decide +kernel)) ggX0_look_X0_greatest
theorem dX0_look_0 : decode cX0_look 0 = .ok (.iload_n 1, 1) := by decide +kernel
theorem dX0_look_1 : decode cX0_look 1 = .ok (.tableswitch 53 0 3 #[31, 36, 41, 47], 31) := by decide +kernel
theorem dX0_look_32 : decode cX0_look 32 = .ok (.aload_n 0, 1) := by decide +kernel
theorem dX0_look_33 : decode cX0_look 33 = .ok (.getfield 20, 3) := by decide +kernel
theorem dX0_look_36 : decode cX0_look 36 = .ok (.ireturn, 1) := by decide +kernel
theorem dX0_look_37 : decode cX0_look 37 = .ok (.aload_n 0, 1) := by decide +kernel
theorem dX0_look_38 : decode cX0_look 38 = .ok (.invokevirtual 86, 3) := by decide +kernel
theorem dX0_look_41 : decode cX0_look 41 = .ok (.ireturn, 1) := by decide +kernel
theorem dX0_look_42 : decode cX0_look 42 = .ok (.aload_n 0, 1) := by decide +kernel
theorem dX0_look_43 : decode cX0_look 43 = .ok (.iconst 0, 1) := by decide +kernel
theorem dX0_look_44 : decode cX0_look 44 = .ok (.invokevirtual 90, 3) := by decide +kernel
theorem dX0_look_47 : decode cX0_look 47 = .ok (.ireturn, 1) := by decide +kernel
theorem dX0_look_48 : decode cX0_look 48 = .ok (.aload_n 0, 1) := by decide +kernel
theorem dX0_look_49 : decode cX0_look 49 = .ok (.iconst 1, 1) := by decide +kernel
theorem dX0_look_50 : decode cX0_look 50 = .ok (.invokevirtual 90, 3) := by decide +kernel
theorem dX0_look_53 : decode cX0_look 53 = .ok (.ireturn, 1) := by decide +kernel
theorem dX0_look_54 : decode cX0_look 54 = .ok (.iconst (-1), 1) := by decide +kernel
theorem dX0_look_55 : decode cX0_look 55 = .ok (.ireturn, 1) := by decide +kernel
theorem dX0_isPart_0 : decode cX0_isPart 0 = .ok (.iload_n 0, 1) := by decide +kernel
theorem dX0_isPart_1 : decode cX0_isPart 1 = .ok (.ifCond .lt 12, 3) := by decide +kernel
theorem dX0_isPart_4 : decode cX0_isPart 4 = .ok (.iload_n 0, 1) := by decide +kernel
theorem dX0_isPart_5 : decode cX0_isPart 5 = .ok (.iconst 4, 1) := by decide +kernel
theorem dX0_isPart_6 : decode cX0_isPart 6 = .ok (.if_icmp .ge 7, 3) := by decide +kernel
theorem dX0_isPart_9 : decode cX0_isPart 9 = .ok (.iconst 1, 1) := by decide +kernel
theorem dX0_isPart_10 : decode cX0_isPart 10 = .ok (.goto 4, 3) := by decide +kernel
theorem dX0_isPart_13 : decode cX0_isPart 13 = .ok (.iconst 0, 1) := by decide +kernel
theorem dX0_isPart_14 : decode cX0_isPart 14 = .ok (.ireturn, 1) := by decide +kernel
theorem dX0_isMoves_0 : decode cX0_isMoves 0 = .ok (.iload_n 0, 1) := by decide +kernel
theorem dX0_isMoves_1 : decode cX0_isMoves 1 = .ok (.ifCond .lt 14, 3) := by decide +kernel
theorem dX0_isMoves_4 : decode cX0_isMoves 4 = .ok (.iload_n 0, 1) := by decide +kernel
theorem dX0_isMoves_5 : decode cX0_isMoves 5 = .ok (.sipush 300, 3) := by decide +kernel
theorem dX0_isMoves_8 : decode cX0_isMoves 8 = .ok (.if_icmp .gt 7, 3) := by decide +kernel
theorem dX0_isMoves_11 : decode cX0_isMoves 11 = .ok (.iconst 1, 1) := by decide +kernel
theorem dX0_isMoves_12 : decode cX0_isMoves 12 = .ok (.goto 4, 3) := by decide +kernel
theorem dX0_isMoves_15 : decode cX0_isMoves 15 = .ok (.iconst 0, 1) := by decide +kernel
theorem dX0_isMoves_16 : decode cX0_isMoves 16 = .ok (.ireturn, 1) := by decide +kernel
theorem dX0_isClock_0 : decode cX0_isClock 0 = .ok (.iload_n 0, 1) := by decide +kernel
theorem dX0_isClock_1 : decode cX0_isClock 1 = .ok (.ifCond .lt 14, 3) := by decide +kernel
theorem dX0_isClock_4 : decode cX0_isClock 4 = .ok (.iload_n 0, 1) := by decide +kernel
theorem dX0_isClock_5 : decode cX0_isClock 5 = .ok (.sipush 1000, 3) := by decide +kernel
theorem dX0_isClock_8 : decode cX0_isClock 8 = .ok (.if_icmp .gt 7, 3) := by decide +kernel
theorem dX0_isClock_11 : decode cX0_isClock 11 = .ok (.iconst 1, 1) := by decide +kernel
theorem dX0_isClock_12 : decode cX0_isClock 12 = .ok (.goto 4, 3) := by decide +kernel
theorem dX0_isClock_15 : decode cX0_isClock 15 = .ok (.iconst 0, 1) := by decide +kernel
theorem dX0_isClock_16 : decode cX0_isClock 16 = .ok (.ireturn, 1) := by decide +kernel
theorem dX0_isState_0 : decode cX0_isState 0 = .ok (.iload_n 0, 1) := by decide +kernel
theorem dX0_isState_1 : decode cX0_isState 1 = .ok (.ifCond .lt 10, 3) := by decide +kernel
theorem dX0_isState_4 : decode cX0_isState 4 = .ok (.iload_n 0, 1) := by decide +kernel
theorem dX0_isState_5 : decode cX0_isState 5 = .ok (.sipush 512, 3) := by decide +kernel
theorem dX0_isState_8 : decode cX0_isState 8 = .ok (.if_icmp .lt 5, 3) := by decide +kernel
theorem dX0_isState_11 : decode cX0_isState 11 = .ok (.iconst 0, 1) := by decide +kernel
theorem dX0_isState_12 : decode cX0_isState 12 = .ok (.ireturn, 1) := by decide +kernel
theorem dX0_isState_13 : decode cX0_isState 13 = .ok (.iload_n 0, 1) := by decide +kernel
theorem dX0_isState_14 : decode cX0_isState 14 = .ok (.iconst 5, 1) := by decide +kernel
theorem dX0_isState_15 : decode cX0_isState 15 = .ok (.ishr, 1) := by decide +kernel
theorem dX0_isState_16 : decode cX0_isState 16 = .ok (.istore_n 1, 1) := by decide +kernel
theorem dX0_isState_17 : decode cX0_isState 17 = .ok (.iload_n 1, 1) := by decide +kernel
theorem dX0_isState_18 : decode cX0_isState 18 = .ok (.bipush 7, 2) := by decide +kernel
theorem dX0_isState_20 : decode cX0_isState 20 = .ok (.if_icmp .le 9, 3) := by decide +kernel
theorem dX0_isState_23 : decode cX0_isState 23 = .ok (.iload_n 1, 1) := by decide +kernel
theorem dX0_isState_24 : decode cX0_isState 24 = .ok (.bipush 15, 2) := by decide +kernel
theorem dX0_isState_26 : decode cX0_isState 26 = .ok (.if_icmp .ne 7, 3) := by decide +kernel
theorem dX0_isState_29 : decode cX0_isState 29 = .ok (.iconst 1, 1) := by decide +kernel
theorem dX0_isState_30 : decode cX0_isState 30 = .ok (.goto 4, 3) := by decide +kernel
theorem dX0_isState_33 : decode cX0_isState 33 = .ok (.iconst 0, 1) := by decide +kernel
theorem dX0_isState_34 : decode cX0_isState 34 = .ok (.ireturn, 1) := by decide +kernel
theorem dX0_isPosition_0 : decode cX0_isPosition 0 = .ok (.iload_n 1, 1) := by decide +kernel
theorem dX0_isPosition_1 : decode cX0_isPosition 1 = .ok (.ifCond .lt 15, 3) := by decide +kernel
theorem dX0_isPosition_4 : decode cX0_isPosition 4 = .ok (.iload_n 1, 1) := by decide +kernel
theorem dX0_isPosition_5 : decode cX0_isPosition 5 = .ok (.aload_n 0, 1) := by decide +kernel
theorem dX0_isPosition_6 : decode cX0_isPosition 6 = .ok (.getfield 20, 3) := by decide +kernel
theorem dX0_isPosition_9 : decode cX0_isPosition 9 = .ok (.if_icmp .ge 7, 3) := by decide +kernel
theorem dX0_isPosition_12 : decode cX0_isPosition 12 = .ok (.iconst 1, 1) := by decide +kernel
theorem dX0_isPosition_13 : decode cX0_isPosition 13 = .ok (.goto 4, 3) := by decide +kernel
theorem dX0_isPosition_16 : decode cX0_isPosition 16 = .ok (.iconst 0, 1) := by decide +kernel
theorem dX0_isPosition_17 : decode cX0_isPosition 17 = .ok (.ireturn, 1) := by decide +kernel
set_option maxRecDepth 20000 in
theorem ggX0_areMen_X0_manOfPart : GoodIn wsX0_areMen wsX0_manOfPart := goodIn_r _ [4] (by decide +kernel) (by decide +kernel)
set_option maxRecDepth 20000 in
theorem gX0_areMen_X0_manOfPart : GoodIn wsX0_areMen (va_wsS RX0 93 yX0_manOfPart wsX0_manOfPart) := goodIn_app (goodIn_of _ (by decide +kernel)) ggX0_areMen_X0_manOfPart
theorem dX0_areMen_0 : decode cX0_areMen 0 = .ok (.iconst 0, 1) := by decide +kernel
theorem dX0_areMen_1 : decode cX0_areMen 1 = .ok (.istore_n 2, 1) := by decide +kernel
theorem dX0_areMen_2 : decode cX0_areMen 2 = .ok (.iload_n 2, 1) := by decide +kernel
theorem dX0_areMen_3 : decode cX0_areMen 3 = .ok (.bipush 16, 2) := by decide +kernel
theorem dX0_areMen_5 : decode cX0_areMen 5 = .ok (.if_icmp .ge 21, 3) := by decide +kernel
theorem dX0_areMen_8 : decode cX0_areMen 8 = .ok (.lload_n 0, 1) := by decide +kernel
theorem dX0_areMen_9 : decode cX0_areMen 9 = .ok (.iload_n 2, 1) := by decide +kernel
theorem dX0_areMen_10 : decode cX0_areMen 10 = .ok (.invokestatic 93, 3) := by decide +kernel
theorem dX0_areMen_13 : decode cX0_areMen 13 = .ok (.bipush 12, 2) := by decide +kernel
theorem dX0_areMen_15 : decode cX0_areMen 15 = .ok (.if_icmp .le 5, 3) := by decide +kernel
theorem dX0_areMen_18 : decode cX0_areMen 18 = .ok (.iconst 0, 1) := by decide +kernel
theorem dX0_areMen_19 : decode cX0_areMen 19 = .ok (.ireturn, 1) := by decide +kernel
theorem dX0_areMen_20 : decode cX0_areMen 20 = .ok (.iinc 2 1, 3) := by decide +kernel
theorem dX0_areMen_23 : decode cX0_areMen 23 = .ok (.goto (-21), 3) := by decide +kernel
theorem dX0_areMen_26 : decode cX0_areMen 26 = .ok (.iconst 1, 1) := by decide +kernel
theorem dX0_areMen_27 : decode cX0_areMen 27 = .ok (.ireturn, 1) := by decide +kernel
theorem dX0_manOfPart_0 : decode cX0_manOfPart 0 = .ok (.iconst 4, 1) := by decide +kernel
theorem dX0_manOfPart_1 : decode cX0_manOfPart 1 = .ok (.bipush 15, 2) := by decide +kernel
theorem dX0_manOfPart_3 : decode cX0_manOfPart 3 = .ok (.iload_n 2, 1) := by decide +kernel
theorem dX0_manOfPart_4 : decode cX0_manOfPart 4 = .ok (.isub, 1) := by decide +kernel
theorem dX0_manOfPart_5 : decode cX0_manOfPart 5 = .ok (.imul, 1) := by decide +kernel
theorem dX0_manOfPart_6 : decode cX0_manOfPart 6 = .ok (.istore_n 3, 1) := by decide +kernel
theorem dX0_manOfPart_7 : decode cX0_manOfPart 7 = .ok (.lload_n 0, 1) := by decide +kernel
theorem dX0_manOfPart_8 : decode cX0_manOfPart 8 = .ok (.iload_n 3, 1) := by decide +kernel
theorem dX0_manOfPart_9 : decode cX0_manOfPart 9 = .ok (.lushr, 1) := by decide +kernel
theorem dX0_manOfPart_10 : decode cX0_manOfPart 10 = .ok (.l2i, 1) := by decide +kernel
theorem dX0_manOfPart_11 : decode cX0_manOfPart 11 = .ok (.bipush 15, 2) := by decide +kernel
theorem dX0_manOfPart_13 : decode cX0_manOfPart 13 = .ok (.iand, 1) := by decide +kernel
theorem dX0_manOfPart_14 : decode cX0_manOfPart 14 = .ok (.ireturn, 1) := by decide +kernel
set_option maxRecDepth 20000 in
theorem ggX0_takesAnother_X0_factOf : GoodIn wsX0_takesAnother wsX0_factOf := goodIn_r _ [6, 7, 8, 9, 10, 11] (by decide +kernel) (by decide +kernel)
set_option maxRecDepth 20000 in
theorem gX0_takesAnother_X0_factOf : GoodIn wsX0_takesAnother (wsV RX0 63 RX0 yX0_factOf wsX0_factOf) := goodIn_app (goodIn_of _ (by decide +kernel)) ggX0_takesAnother_X0_factOf
theorem dX0_takesAnother_0 : decode cX0_takesAnother 0 = .ok (.aload_n 0, 1) := by decide +kernel
theorem dX0_takesAnother_1 : decode cX0_takesAnother 1 = .ok (.getfield 20, 3) := by decide +kernel
theorem dX0_takesAnother_4 : decode cX0_takesAnother 4 = .ok (.ifCond .eq 13, 3) := by decide +kernel
theorem dX0_takesAnother_7 : decode cX0_takesAnother 7 = .ok (.aload_n 0, 1) := by decide +kernel
theorem dX0_takesAnother_8 : decode cX0_takesAnother 8 = .ok (.getfield 20, 3) := by decide +kernel
theorem dX0_takesAnother_11 : decode cX0_takesAnother 11 = .ok (.sipush 640, 3) := by decide +kernel
theorem dX0_takesAnother_14 : decode cX0_takesAnother 14 = .ok (.if_icmp .lt 5, 3) := by decide +kernel
theorem dX0_takesAnother_17 : decode cX0_takesAnother 17 = .ok (.iconst 0, 1) := by decide +kernel
theorem dX0_takesAnother_18 : decode cX0_takesAnother 18 = .ok (.ireturn, 1) := by decide +kernel
theorem dX0_takesAnother_19 : decode cX0_takesAnother 19 = .ok (.aload_n 0, 1) := by decide +kernel
theorem dX0_takesAnother_20 : decode cX0_takesAnother 20 = .ok (.aload_n 0, 1) := by decide +kernel
theorem dX0_takesAnother_21 : decode cX0_takesAnother 21 = .ok (.getfield 20, 3) := by decide +kernel
theorem dX0_takesAnother_24 : decode cX0_takesAnother 24 = .ok (.iconst 1, 1) := by decide +kernel
theorem dX0_takesAnother_25 : decode cX0_takesAnother 25 = .ok (.isub, 1) := by decide +kernel
theorem dX0_takesAnother_26 : decode cX0_takesAnother 26 = .ok (.iconst 2, 1) := by decide +kernel
theorem dX0_takesAnother_27 : decode cX0_takesAnother 27 = .ok (.invokevirtual 63, 3) := by decide +kernel
theorem dX0_takesAnother_30 : decode cX0_takesAnother 30 = .ok (.istore_n 1, 1) := by decide +kernel
theorem dX0_takesAnother_31 : decode cX0_takesAnother 31 = .ok (.iload_n 1, 1) := by decide +kernel
theorem dX0_takesAnother_32 : decode cX0_takesAnother 32 = .ok (.iconst 1, 1) := by decide +kernel
theorem dX0_takesAnother_33 : decode cX0_takesAnother 33 = .ok (.if_icmp .lt 8, 3) := by decide +kernel
theorem dX0_takesAnother_36 : decode cX0_takesAnother 36 = .ok (.iload_n 1, 1) := by decide +kernel
theorem dX0_takesAnother_37 : decode cX0_takesAnother 37 = .ok (.iconst 5, 1) := by decide +kernel
theorem dX0_takesAnother_38 : decode cX0_takesAnother 38 = .ok (.if_icmp .le 7, 3) := by decide +kernel
theorem dX0_takesAnother_41 : decode cX0_takesAnother 41 = .ok (.iconst 1, 1) := by decide +kernel
theorem dX0_takesAnother_42 : decode cX0_takesAnother 42 = .ok (.goto 4, 3) := by decide +kernel
theorem dX0_takesAnother_45 : decode cX0_takesAnother 45 = .ok (.iconst 0, 1) := by decide +kernel
theorem dX0_takesAnother_46 : decode cX0_takesAnother 46 = .ok (.ireturn, 1) := by decide +kernel
theorem dX0_factOf_0 : decode cX0_factOf 0 = .ok (.aload_n 0, 1) := by decide +kernel
theorem dX0_factOf_1 : decode cX0_factOf 1 = .ok (.getfield 16, 3) := by decide +kernel
theorem dX0_factOf_4 : decode cX0_factOf 4 = .ok (.iload_n 1, 1) := by decide +kernel
theorem dX0_factOf_5 : decode cX0_factOf 5 = .ok (.bipush 8, 2) := by decide +kernel
theorem dX0_factOf_7 : decode cX0_factOf 7 = .ok (.imul, 1) := by decide +kernel
theorem dX0_factOf_8 : decode cX0_factOf 8 = .ok (.iload_n 2, 1) := by decide +kernel
theorem dX0_factOf_9 : decode cX0_factOf 9 = .ok (.iadd, 1) := by decide +kernel
theorem dX0_factOf_10 : decode cX0_factOf 10 = .ok (.iaload, 1) := by decide +kernel
theorem dX0_factOf_11 : decode cX0_factOf 11 = .ok (.ireturn, 1) := by decide +kernel
set_option maxRecDepth 20000 in
theorem ggX0_append_X0_lastSame : GoodIn wsX0_append wsX0_lastSame := goodIn_r _ [13, 1, 14, 15, 16, 12, 17, 2, 18, 19, 20, 21, 4, 3, 55, 56, 57, 58] (by decide +kernel) (by decide +kernel)
set_option maxRecDepth 20000 in
theorem gX0_append_X0_lastSame : GoodIn wsX0_append (wsV RX0 79 RX0 yX0_lastSame wsX0_lastSame) := goodIn_app (goodIn_of _ (by decide +kernel)) ggX0_append_X0_lastSame
set_option maxRecDepth 20000 in
theorem ggX0_append_X0_countUpTo : GoodIn wsX0_append wsX0_countUpTo := goodIn_r _ [25, 26, 27, 28, 12, 29, 1, 14, 15, 16, 17, 2, 55, 56, 57, 58] (by decide +kernel) (by decide +kernel)
set_option maxRecDepth 20000 in
theorem gX0_append_X0_countUpTo : GoodIn wsX0_append (wsV RX0 83 RX0 yX0_countUpTo wsX0_countUpTo) := goodIn_app (goodIn_of _ (by decide +kernel)) ggX0_append_X0_countUpTo
set_option maxRecDepth 20000 in
theorem ggX0_append_X0_countGiven : GoodIn wsX0_append wsX0_countGiven := goodIn_r _ [33, 34, 35, 36, 12, 37, 3, 38, 39, 40, 55, 56, 57, 58] (by decide +kernel) (by decide +kernel)
set_option maxRecDepth 20000 in
theorem gX0_append_X0_countGiven : GoodIn wsX0_append (wsV RX0 97 RX0 yX0_countGiven wsX0_countGiven) := goodIn_app (goodIn_of _ (by decide +kernel)) ggX0_append_X0_countGiven
set_option maxRecDepth 20000 in
theorem ggX0_append_X0_isGivenDead : GoodIn wsX0_append wsX0_isGivenDead := goodIn_r _ [44, 30, 31, 32, 12, 33, 34, 35, 36, 37, 3, 38, 39, 40, 45, 46, 47, 48, 49, 50, 51, 55, 56, 57, 58] (by decide +kernel) (by decide +kernel)
set_option maxRecDepth 20000 in
theorem gX0_append_X0_isGivenDead : GoodIn wsX0_append (wsV RX0 100 RX0 yX0_isGivenDead wsX0_isGivenDead) := goodIn_app (goodIn_of _ (by decide +kernel)) ggX0_append_X0_isGivenDead
set_option maxRecDepth 20000 in
theorem ggX0_append_X0_judge : GoodIn wsX0_append wsX0_judge := goodIn_r _ [54] (by decide +kernel) (by decide +kernel)
set_option maxRecDepth 20000 in
theorem gX0_append_X0_judge : GoodIn wsX0_append (va_wsS RX0 103 yX0_judge wsX0_judge) := goodIn_app (goodIn_of _ (by decide +kernel)) ggX0_append_X0_judge
set_option maxRecDepth 20000 in
theorem ggX0_append_X0_factOf : GoodIn wsX0_append wsX0_factOf := goodIn_r _ [17, 2, 55, 56, 57, 58] (by decide +kernel) (by decide +kernel)
set_option maxRecDepth 20000 in
theorem gX0_append_X0_factOf : GoodIn wsX0_append (wsV RX0 63 RX0 yX0_factOf wsX0_factOf) := goodIn_app (goodIn_of _ (by decide +kernel)) ggX0_append_X0_factOf
theorem dX0_append_0 : decode cX0_append 0 = .ok (.aload_n 0, 1) := by decide +kernel
theorem dX0_append_1 : decode cX0_append 1 = .ok (.getfield 20, 3) := by decide +kernel
theorem dX0_append_4 : decode cX0_append 4 = .ok (.istore 5, 2) := by decide +kernel
theorem dX0_append_6 : decode cX0_append 6 = .ok (.aload_n 0, 1) := by decide +kernel
theorem dX0_append_7 : decode cX0_append 7 = .ok (.iload_n 1, 1) := by decide +kernel
theorem dX0_append_8 : decode cX0_append 8 = .ok (.invokevirtual 79, 3) := by decide +kernel
theorem dX0_append_11 : decode cX0_append 11 = .ok (.istore 6, 2) := by decide +kernel
theorem dX0_append_13 : decode cX0_append 13 = .ok (.aload_n 0, 1) := by decide +kernel
theorem dX0_append_14 : decode cX0_append 14 = .ok (.iload 6, 2) := by decide +kernel
theorem dX0_append_16 : decode cX0_append 16 = .ok (.invokevirtual 83, 3) := by decide +kernel
theorem dX0_append_19 : decode cX0_append 19 = .ok (.iconst 1, 1) := by decide +kernel
theorem dX0_append_20 : decode cX0_append 20 = .ok (.iadd, 1) := by decide +kernel
theorem dX0_append_21 : decode cX0_append 21 = .ok (.istore 7, 2) := by decide +kernel
theorem dX0_append_23 : decode cX0_append 23 = .ok (.bipush 64, 2) := by decide +kernel
theorem dX0_append_25 : decode cX0_append 25 = .ok (.aload_n 0, 1) := by decide +kernel
theorem dX0_append_26 : decode cX0_append 26 = .ok (.iconst 0, 1) := by decide +kernel
theorem dX0_append_27 : decode cX0_append 27 = .ok (.invokevirtual 97, 3) := by decide +kernel
theorem dX0_append_30 : decode cX0_append 30 = .ok (.isub, 1) := by decide +kernel
theorem dX0_append_31 : decode cX0_append 31 = .ok (.istore 8, 2) := by decide +kernel
theorem dX0_append_33 : decode cX0_append 33 = .ok (.aload_n 0, 1) := by decide +kernel
theorem dX0_append_34 : decode cX0_append 34 = .ok (.iload 8, 2) := by decide +kernel
theorem dX0_append_36 : decode cX0_append 36 = .ok (.invokevirtual 100, 3) := by decide +kernel
theorem dX0_append_39 : decode cX0_append 39 = .ok (.istore 9, 2) := by decide +kernel
theorem dX0_append_41 : decode cX0_append 41 = .ok (.iload_n 2, 1) := by decide +kernel
theorem dX0_append_42 : decode cX0_append 42 = .ok (.iload_n 3, 1) := by decide +kernel
theorem dX0_append_43 : decode cX0_append 43 = .ok (.iload 9, 2) := by decide +kernel
theorem dX0_append_45 : decode cX0_append 45 = .ok (.iload 7, 2) := by decide +kernel
theorem dX0_append_47 : decode cX0_append 47 = .ok (.iload 4, 2) := by decide +kernel
theorem dX0_append_49 : decode cX0_append 49 = .ok (.invokestatic 103, 3) := by decide +kernel
theorem dX0_append_52 : decode cX0_append 52 = .ok (.istore 10, 2) := by decide +kernel
theorem dX0_append_54 : decode cX0_append 54 = .ok (.iload 5, 2) := by decide +kernel
theorem dX0_append_56 : decode cX0_append 56 = .ok (.bipush 8, 2) := by decide +kernel
theorem dX0_append_58 : decode cX0_append 58 = .ok (.imul, 1) := by decide +kernel
theorem dX0_append_59 : decode cX0_append 59 = .ok (.istore 11, 2) := by decide +kernel
theorem dX0_append_61 : decode cX0_append 61 = .ok (.aload_n 0, 1) := by decide +kernel
theorem dX0_append_62 : decode cX0_append 62 = .ok (.getfield 16, 3) := by decide +kernel
theorem dX0_append_65 : decode cX0_append 65 = .ok (.iload 11, 2) := by decide +kernel
theorem dX0_append_67 : decode cX0_append 67 = .ok (.iconst 0, 1) := by decide +kernel
theorem dX0_append_68 : decode cX0_append 68 = .ok (.iadd, 1) := by decide +kernel
theorem dX0_append_69 : decode cX0_append 69 = .ok (.iload 7, 2) := by decide +kernel
theorem dX0_append_71 : decode cX0_append 71 = .ok (.iastore, 1) := by decide +kernel
theorem dX0_append_72 : decode cX0_append 72 = .ok (.aload_n 0, 1) := by decide +kernel
theorem dX0_append_73 : decode cX0_append 73 = .ok (.getfield 16, 3) := by decide +kernel
theorem dX0_append_76 : decode cX0_append 76 = .ok (.iload 11, 2) := by decide +kernel
theorem dX0_append_78 : decode cX0_append 78 = .ok (.iconst 1, 1) := by decide +kernel
theorem dX0_append_79 : decode cX0_append 79 = .ok (.iadd, 1) := by decide +kernel
theorem dX0_append_80 : decode cX0_append 80 = .ok (.iload 4, 2) := by decide +kernel
theorem dX0_append_82 : decode cX0_append 82 = .ok (.iastore, 1) := by decide +kernel
theorem dX0_append_83 : decode cX0_append 83 = .ok (.aload_n 0, 1) := by decide +kernel
theorem dX0_append_84 : decode cX0_append 84 = .ok (.getfield 16, 3) := by decide +kernel
theorem dX0_append_87 : decode cX0_append 87 = .ok (.iload 11, 2) := by decide +kernel
theorem dX0_append_89 : decode cX0_append 89 = .ok (.iconst 2, 1) := by decide +kernel
theorem dX0_append_90 : decode cX0_append 90 = .ok (.iadd, 1) := by decide +kernel
theorem dX0_append_91 : decode cX0_append 91 = .ok (.iload 10, 2) := by decide +kernel
theorem dX0_append_93 : decode cX0_append 93 = .ok (.iastore, 1) := by decide +kernel
theorem dX0_append_94 : decode cX0_append 94 = .ok (.aload_n 0, 1) := by decide +kernel
theorem dX0_append_95 : decode cX0_append 95 = .ok (.getfield 16, 3) := by decide +kernel
theorem dX0_append_98 : decode cX0_append 98 = .ok (.iload 11, 2) := by decide +kernel
theorem dX0_append_100 : decode cX0_append 100 = .ok (.iconst 3, 1) := by decide +kernel
theorem dX0_append_101 : decode cX0_append 101 = .ok (.iadd, 1) := by decide +kernel
theorem dX0_append_102 : decode cX0_append 102 = .ok (.iload 6, 2) := by decide +kernel
theorem dX0_append_104 : decode cX0_append 104 = .ok (.iconst (-1), 1) := by decide +kernel
theorem dX0_append_105 : decode cX0_append 105 = .ok (.if_icmp .ne 8, 3) := by decide +kernel
theorem dX0_append_108 : decode cX0_append 108 = .ok (.iload 5, 2) := by decide +kernel
theorem dX0_append_110 : decode cX0_append 110 = .ok (.goto 10, 3) := by decide +kernel
theorem dX0_append_113 : decode cX0_append 113 = .ok (.aload_n 0, 1) := by decide +kernel
theorem dX0_append_114 : decode cX0_append 114 = .ok (.iload 6, 2) := by decide +kernel
theorem dX0_append_116 : decode cX0_append 116 = .ok (.iconst 3, 1) := by decide +kernel
theorem dX0_append_117 : decode cX0_append 117 = .ok (.invokevirtual 63, 3) := by decide +kernel
theorem dX0_append_120 : decode cX0_append 120 = .ok (.iastore, 1) := by decide +kernel
theorem dX0_append_121 : decode cX0_append 121 = .ok (.aload_n 0, 1) := by decide +kernel
theorem dX0_append_122 : decode cX0_append 122 = .ok (.getfield 16, 3) := by decide +kernel
theorem dX0_append_125 : decode cX0_append 125 = .ok (.iload 11, 2) := by decide +kernel
theorem dX0_append_127 : decode cX0_append 127 = .ok (.iconst 4, 1) := by decide +kernel
theorem dX0_append_128 : decode cX0_append 128 = .ok (.iadd, 1) := by decide +kernel
theorem dX0_append_129 : decode cX0_append 129 = .ok (.iload 6, 2) := by decide +kernel
theorem dX0_append_131 : decode cX0_append 131 = .ok (.iastore, 1) := by decide +kernel
theorem dX0_append_132 : decode cX0_append 132 = .ok (.aload_n 0, 1) := by decide +kernel
theorem dX0_append_133 : decode cX0_append 133 = .ok (.getfield 16, 3) := by decide +kernel
theorem dX0_append_136 : decode cX0_append 136 = .ok (.iload 11, 2) := by decide +kernel
theorem dX0_append_138 : decode cX0_append 138 = .ok (.iconst 5, 1) := by decide +kernel
theorem dX0_append_139 : decode cX0_append 139 = .ok (.iadd, 1) := by decide +kernel
theorem dX0_append_140 : decode cX0_append 140 = .ok (.iload_n 1, 1) := by decide +kernel
theorem dX0_append_141 : decode cX0_append 141 = .ok (.iastore, 1) := by decide +kernel
theorem dX0_append_142 : decode cX0_append 142 = .ok (.aload_n 0, 1) := by decide +kernel
theorem dX0_append_143 : decode cX0_append 143 = .ok (.getfield 16, 3) := by decide +kernel
theorem dX0_append_146 : decode cX0_append 146 = .ok (.iload 11, 2) := by decide +kernel
theorem dX0_append_148 : decode cX0_append 148 = .ok (.bipush 6, 2) := by decide +kernel
theorem dX0_append_150 : decode cX0_append 150 = .ok (.iadd, 1) := by decide +kernel
theorem dX0_append_151 : decode cX0_append 151 = .ok (.iload 9, 2) := by decide +kernel
theorem dX0_append_153 : decode cX0_append 153 = .ok (.ifCond .eq 7, 3) := by decide +kernel
theorem dX0_append_156 : decode cX0_append 156 = .ok (.iconst 1, 1) := by decide +kernel
theorem dX0_append_157 : decode cX0_append 157 = .ok (.goto 4, 3) := by decide +kernel
theorem dX0_append_160 : decode cX0_append 160 = .ok (.iconst 0, 1) := by decide +kernel
theorem dX0_append_161 : decode cX0_append 161 = .ok (.iastore, 1) := by decide +kernel
theorem dX0_append_162 : decode cX0_append 162 = .ok (.aload_n 0, 1) := by decide +kernel
theorem dX0_append_163 : decode cX0_append 163 = .ok (.getfield 16, 3) := by decide +kernel
theorem dX0_append_166 : decode cX0_append 166 = .ok (.iload 11, 2) := by decide +kernel
theorem dX0_append_168 : decode cX0_append 168 = .ok (.bipush 7, 2) := by decide +kernel
theorem dX0_append_170 : decode cX0_append 170 = .ok (.iadd, 1) := by decide +kernel
theorem dX0_append_171 : decode cX0_append 171 = .ok (.iload 8, 2) := by decide +kernel
theorem dX0_append_173 : decode cX0_append 173 = .ok (.iastore, 1) := by decide +kernel
theorem dX0_append_174 : decode cX0_append 174 = .ok (.aload_n 0, 1) := by decide +kernel
theorem dX0_append_175 : decode cX0_append 175 = .ok (.getfield 9, 3) := by decide +kernel
theorem dX0_append_178 : decode cX0_append 178 = .ok (.iconst 0, 1) := by decide +kernel
theorem dX0_append_179 : decode cX0_append 179 = .ok (.aload_n 0, 1) := by decide +kernel
theorem dX0_append_180 : decode cX0_append 180 = .ok (.getfield 13, 3) := by decide +kernel
theorem dX0_append_183 : decode cX0_append 183 = .ok (.iload 5, 2) := by decide +kernel
theorem dX0_append_185 : decode cX0_append 185 = .ok (.iconst 4, 1) := by decide +kernel
theorem dX0_append_186 : decode cX0_append 186 = .ok (.imul, 1) := by decide +kernel
theorem dX0_append_187 : decode cX0_append 187 = .ok (.iconst 4, 1) := by decide +kernel
theorem dX0_append_188 : decode cX0_append 188 = .ok (.invokestatic 107, 3) := by decide +kernel
theorem dX0_append_191 : decode cX0_append 191 = .ok (.aload_n 0, 1) := by decide +kernel
theorem dX0_append_192 : decode cX0_append 192 = .ok (.iload 5, 2) := by decide +kernel
theorem dX0_append_194 : decode cX0_append 194 = .ok (.iconst 1, 1) := by decide +kernel
theorem dX0_append_195 : decode cX0_append 195 = .ok (.iadd, 1) := by decide +kernel
theorem dX0_append_196 : decode cX0_append 196 = .ok (.putfield 20, 3) := by decide +kernel
theorem dX0_append_199 : decode cX0_append 199 = .ok (.iload 10, 2) := by decide +kernel
theorem dX0_append_201 : decode cX0_append 201 = .ok (.ireturn, 1) := by decide +kernel
set_option maxRecDepth 20000 in
theorem ggX0_lastSame_X0_factOf : GoodIn wsX0_lastSame wsX0_factOf := goodIn_r _ [6, 7, 14, 15, 16, 17] (by decide +kernel) (by decide +kernel)
set_option maxRecDepth 20000 in
theorem gX0_lastSame_X0_factOf : GoodIn wsX0_lastSame (wsV RX0 63 RX0 yX0_factOf wsX0_factOf) := goodIn_app (goodIn_of _ (by decide +kernel)) ggX0_lastSame_X0_factOf
set_option maxRecDepth 20000 in
theorem ggX0_lastSame_X0_hasGivenSquares : GoodIn wsX0_lastSame wsX0_hasGivenSquares := goodIn_r _ [11, 12, 13, 14, 15, 16, 17] (by decide +kernel) (by decide +kernel)
set_option maxRecDepth 20000 in
theorem gX0_lastSame_X0_hasGivenSquares : GoodIn wsX0_lastSame (wsV RX0 113 RX0 yX0_hasGivenSquares wsX0_hasGivenSquares) := goodIn_app (goodIn_of _ (by decide +kernel)) ggX0_lastSame_X0_hasGivenSquares
theorem dX0_lastSame_0 : decode cX0_lastSame 0 = .ok (.aload_n 0, 1) := by decide +kernel
theorem dX0_lastSame_1 : decode cX0_lastSame 1 = .ok (.getfield 20, 3) := by decide +kernel
theorem dX0_lastSame_4 : decode cX0_lastSame 4 = .ok (.iconst 1, 1) := by decide +kernel
theorem dX0_lastSame_5 : decode cX0_lastSame 5 = .ok (.isub, 1) := by decide +kernel
theorem dX0_lastSame_6 : decode cX0_lastSame 6 = .ok (.istore_n 2, 1) := by decide +kernel
theorem dX0_lastSame_7 : decode cX0_lastSame 7 = .ok (.iload_n 2, 1) := by decide +kernel
theorem dX0_lastSame_8 : decode cX0_lastSame 8 = .ok (.ifCond .lt 29, 3) := by decide +kernel
theorem dX0_lastSame_11 : decode cX0_lastSame 11 = .ok (.aload_n 0, 1) := by decide +kernel
theorem dX0_lastSame_12 : decode cX0_lastSame 12 = .ok (.iload_n 2, 1) := by decide +kernel
theorem dX0_lastSame_13 : decode cX0_lastSame 13 = .ok (.iconst 5, 1) := by decide +kernel
theorem dX0_lastSame_14 : decode cX0_lastSame 14 = .ok (.invokevirtual 63, 3) := by decide +kernel
theorem dX0_lastSame_17 : decode cX0_lastSame 17 = .ok (.iload_n 1, 1) := by decide +kernel
theorem dX0_lastSame_18 : decode cX0_lastSame 18 = .ok (.if_icmp .ne 13, 3) := by decide +kernel
theorem dX0_lastSame_21 : decode cX0_lastSame 21 = .ok (.aload_n 0, 1) := by decide +kernel
theorem dX0_lastSame_22 : decode cX0_lastSame 22 = .ok (.iload_n 2, 1) := by decide +kernel
theorem dX0_lastSame_23 : decode cX0_lastSame 23 = .ok (.invokevirtual 113, 3) := by decide +kernel
theorem dX0_lastSame_26 : decode cX0_lastSame 26 = .ok (.ifCond .eq 5, 3) := by decide +kernel
theorem dX0_lastSame_29 : decode cX0_lastSame 29 = .ok (.iload_n 2, 1) := by decide +kernel
theorem dX0_lastSame_30 : decode cX0_lastSame 30 = .ok (.ireturn, 1) := by decide +kernel
theorem dX0_lastSame_31 : decode cX0_lastSame 31 = .ok (.iinc 2 (-1), 3) := by decide +kernel
theorem dX0_lastSame_34 : decode cX0_lastSame 34 = .ok (.goto (-27), 3) := by decide +kernel
theorem dX0_lastSame_37 : decode cX0_lastSame 37 = .ok (.iconst (-1), 1) := by decide +kernel
theorem dX0_lastSame_38 : decode cX0_lastSame 38 = .ok (.ireturn, 1) := by decide +kernel
theorem dX0_hasGivenSquares_0 : decode cX0_hasGivenSquares 0 = .ok (.iconst 0, 1) := by decide +kernel
theorem dX0_hasGivenSquares_1 : decode cX0_hasGivenSquares 1 = .ok (.istore_n 2, 1) := by decide +kernel
theorem dX0_hasGivenSquares_2 : decode cX0_hasGivenSquares 2 = .ok (.iload_n 2, 1) := by decide +kernel
theorem dX0_hasGivenSquares_3 : decode cX0_hasGivenSquares 3 = .ok (.iconst 4, 1) := by decide +kernel
theorem dX0_hasGivenSquares_4 : decode cX0_hasGivenSquares 4 = .ok (.if_icmp .ge 31, 3) := by decide +kernel
theorem dX0_hasGivenSquares_7 : decode cX0_hasGivenSquares 7 = .ok (.aload_n 0, 1) := by decide +kernel
theorem dX0_hasGivenSquares_8 : decode cX0_hasGivenSquares 8 = .ok (.getfield 13, 3) := by decide +kernel
theorem dX0_hasGivenSquares_11 : decode cX0_hasGivenSquares 11 = .ok (.iload_n 1, 1) := by decide +kernel
theorem dX0_hasGivenSquares_12 : decode cX0_hasGivenSquares 12 = .ok (.iconst 4, 1) := by decide +kernel
theorem dX0_hasGivenSquares_13 : decode cX0_hasGivenSquares 13 = .ok (.imul, 1) := by decide +kernel
theorem dX0_hasGivenSquares_14 : decode cX0_hasGivenSquares 14 = .ok (.iload_n 2, 1) := by decide +kernel
theorem dX0_hasGivenSquares_15 : decode cX0_hasGivenSquares 15 = .ok (.iadd, 1) := by decide +kernel
theorem dX0_hasGivenSquares_16 : decode cX0_hasGivenSquares 16 = .ok (.laload, 1) := by decide +kernel
theorem dX0_hasGivenSquares_17 : decode cX0_hasGivenSquares 17 = .ok (.aload_n 0, 1) := by decide +kernel
theorem dX0_hasGivenSquares_18 : decode cX0_hasGivenSquares 18 = .ok (.getfield 9, 3) := by decide +kernel
theorem dX0_hasGivenSquares_21 : decode cX0_hasGivenSquares 21 = .ok (.iload_n 2, 1) := by decide +kernel
theorem dX0_hasGivenSquares_22 : decode cX0_hasGivenSquares 22 = .ok (.laload, 1) := by decide +kernel
theorem dX0_hasGivenSquares_23 : decode cX0_hasGivenSquares 23 = .ok (.lcmp, 1) := by decide +kernel
theorem dX0_hasGivenSquares_24 : decode cX0_hasGivenSquares 24 = .ok (.ifCond .eq 5, 3) := by decide +kernel
theorem dX0_hasGivenSquares_27 : decode cX0_hasGivenSquares 27 = .ok (.iconst 0, 1) := by decide +kernel
theorem dX0_hasGivenSquares_28 : decode cX0_hasGivenSquares 28 = .ok (.ireturn, 1) := by decide +kernel
theorem dX0_hasGivenSquares_29 : decode cX0_hasGivenSquares 29 = .ok (.iinc 2 1, 3) := by decide +kernel
theorem dX0_hasGivenSquares_32 : decode cX0_hasGivenSquares 32 = .ok (.goto (-30), 3) := by decide +kernel
theorem dX0_hasGivenSquares_35 : decode cX0_hasGivenSquares 35 = .ok (.iconst 1, 1) := by decide +kernel
theorem dX0_hasGivenSquares_36 : decode cX0_hasGivenSquares 36 = .ok (.ireturn, 1) := by decide +kernel
set_option maxRecDepth 20000 in
theorem ggX0_countUpTo_X0_isPosition : GoodIn wsX0_countUpTo wsX0_isPosition := goodIn_r _ [5, 6, 12, 13, 14, 15] (by decide +kernel) (by decide +kernel)
set_option maxRecDepth 20000 in
theorem gX0_countUpTo_X0_isPosition : GoodIn wsX0_countUpTo (wsV RX0 67 RX0 yX0_isPosition wsX0_isPosition) := goodIn_app (goodIn_of _ (by decide +kernel)) ggX0_countUpTo_X0_isPosition
set_option maxRecDepth 20000 in
theorem ggX0_countUpTo_X0_factOf : GoodIn wsX0_countUpTo wsX0_factOf := goodIn_r _ [10, 11, 12, 13, 14, 15] (by decide +kernel) (by decide +kernel)
set_option maxRecDepth 20000 in
theorem gX0_countUpTo_X0_factOf : GoodIn wsX0_countUpTo (wsV RX0 63 RX0 yX0_factOf wsX0_factOf) := goodIn_app (goodIn_of _ (by decide +kernel)) ggX0_countUpTo_X0_factOf
theorem dX0_countUpTo_0 : decode cX0_countUpTo 0 = .ok (.aload_n 0, 1) := by decide +kernel
theorem dX0_countUpTo_1 : decode cX0_countUpTo 1 = .ok (.iload_n 1, 1) := by decide +kernel
theorem dX0_countUpTo_2 : decode cX0_countUpTo 2 = .ok (.invokevirtual 67, 3) := by decide +kernel
theorem dX0_countUpTo_5 : decode cX0_countUpTo 5 = .ok (.ifCond .eq 12, 3) := by decide +kernel
theorem dX0_countUpTo_8 : decode cX0_countUpTo 8 = .ok (.aload_n 0, 1) := by decide +kernel
theorem dX0_countUpTo_9 : decode cX0_countUpTo 9 = .ok (.iload_n 1, 1) := by decide +kernel
theorem dX0_countUpTo_10 : decode cX0_countUpTo 10 = .ok (.iconst 0, 1) := by decide +kernel
theorem dX0_countUpTo_11 : decode cX0_countUpTo 11 = .ok (.invokevirtual 63, 3) := by decide +kernel
theorem dX0_countUpTo_14 : decode cX0_countUpTo 14 = .ok (.goto 4, 3) := by decide +kernel
theorem dX0_countUpTo_17 : decode cX0_countUpTo 17 = .ok (.iconst 0, 1) := by decide +kernel
theorem dX0_countUpTo_18 : decode cX0_countUpTo 18 = .ok (.ireturn, 1) := by decide +kernel
theorem dX0_judge_0 : decode cX0_judge 0 = .ok (.iload_n 0, 1) := by decide +kernel
theorem dX0_judge_1 : decode cX0_judge 1 = .ok (.ifCond .ne 13, 3) := by decide +kernel
theorem dX0_judge_4 : decode cX0_judge 4 = .ok (.iload_n 1, 1) := by decide +kernel
theorem dX0_judge_5 : decode cX0_judge 5 = .ok (.ifCond .eq 7, 3) := by decide +kernel
theorem dX0_judge_8 : decode cX0_judge 8 = .ok (.iconst 1, 1) := by decide +kernel
theorem dX0_judge_9 : decode cX0_judge 9 = .ok (.goto 4, 3) := by decide +kernel
theorem dX0_judge_12 : decode cX0_judge 12 = .ok (.iconst 2, 1) := by decide +kernel
theorem dX0_judge_13 : decode cX0_judge 13 = .ok (.ireturn, 1) := by decide +kernel
theorem dX0_judge_14 : decode cX0_judge 14 = .ok (.iload_n 2, 1) := by decide +kernel
theorem dX0_judge_15 : decode cX0_judge 15 = .ok (.ifCond .eq 5, 3) := by decide +kernel
theorem dX0_judge_18 : decode cX0_judge 18 = .ok (.iconst 3, 1) := by decide +kernel
theorem dX0_judge_19 : decode cX0_judge 19 = .ok (.ireturn, 1) := by decide +kernel
theorem dX0_judge_20 : decode cX0_judge 20 = .ok (.iload_n 3, 1) := by decide +kernel
theorem dX0_judge_21 : decode cX0_judge 21 = .ok (.iconst 5, 1) := by decide +kernel
theorem dX0_judge_22 : decode cX0_judge 22 = .ok (.if_icmp .lt 5, 3) := by decide +kernel
theorem dX0_judge_25 : decode cX0_judge 25 = .ok (.iconst 4, 1) := by decide +kernel
theorem dX0_judge_26 : decode cX0_judge 26 = .ok (.ireturn, 1) := by decide +kernel
theorem dX0_judge_27 : decode cX0_judge 27 = .ok (.iload 4, 2) := by decide +kernel
theorem dX0_judge_29 : decode cX0_judge 29 = .ok (.sipush 150, 3) := by decide +kernel
theorem dX0_judge_32 : decode cX0_judge 32 = .ok (.if_icmp .lt 5, 3) := by decide +kernel
theorem dX0_judge_35 : decode cX0_judge 35 = .ok (.iconst 5, 1) := by decide +kernel
theorem dX0_judge_36 : decode cX0_judge 36 = .ok (.ireturn, 1) := by decide +kernel
theorem dX0_judge_37 : decode cX0_judge 37 = .ok (.iload_n 3, 1) := by decide +kernel
theorem dX0_judge_38 : decode cX0_judge 38 = .ok (.iconst 3, 1) := by decide +kernel
theorem dX0_judge_39 : decode cX0_judge 39 = .ok (.if_icmp .lt 18, 3) := by decide +kernel
theorem dX0_judge_42 : decode cX0_judge 42 = .ok (.iload 4, 2) := by decide +kernel
theorem dX0_judge_44 : decode cX0_judge 44 = .ok (.bipush 100, 2) := by decide +kernel
theorem dX0_judge_46 : decode cX0_judge 46 = .ok (.if_icmp .lt 8, 3) := by decide +kernel
theorem dX0_judge_49 : decode cX0_judge 49 = .ok (.bipush 8, 2) := by decide +kernel
theorem dX0_judge_51 : decode cX0_judge 51 = .ok (.goto 5, 3) := by decide +kernel
theorem dX0_judge_54 : decode cX0_judge 54 = .ok (.bipush 6, 2) := by decide +kernel
theorem dX0_judge_56 : decode cX0_judge 56 = .ok (.ireturn, 1) := by decide +kernel
theorem dX0_judge_57 : decode cX0_judge 57 = .ok (.iload 4, 2) := by decide +kernel
theorem dX0_judge_59 : decode cX0_judge 59 = .ok (.bipush 100, 2) := by decide +kernel
theorem dX0_judge_61 : decode cX0_judge 61 = .ok (.if_icmp .lt 8, 3) := by decide +kernel
theorem dX0_judge_64 : decode cX0_judge 64 = .ok (.bipush 7, 2) := by decide +kernel
theorem dX0_judge_66 : decode cX0_judge 66 = .ok (.goto 4, 3) := by decide +kernel
theorem dX0_judge_69 : decode cX0_judge 69 = .ok (.iconst 0, 1) := by decide +kernel
theorem dX0_judge_70 : decode cX0_judge 70 = .ok (.ireturn, 1) := by decide +kernel
set_option maxRecDepth 20000 in
theorem ggX0_isGivenDead_X0_countGiven : GoodIn wsX0_isGivenDead wsX0_countGiven := goodIn_r _ [5, 6, 7, 8, 4, 9, 10, 11, 12, 13, 21, 22, 23, 24] (by decide +kernel) (by decide +kernel)
set_option maxRecDepth 20000 in
theorem gX0_isGivenDead_X0_countGiven : GoodIn wsX0_isGivenDead (wsV RX0 97 RX0 yX0_countGiven wsX0_countGiven) := goodIn_app (goodIn_of _ (by decide +kernel)) ggX0_isGivenDead_X0_countGiven
set_option maxRecDepth 20000 in
theorem ggX0_isGivenDead_X0_firstSquareGiven : GoodIn wsX0_isGivenDead wsX0_firstSquareGiven := goodIn_r _ [17, 6, 7, 8, 4, 9, 10, 11, 12, 13, 21, 22, 23, 24] (by decide +kernel) (by decide +kernel)
set_option maxRecDepth 20000 in
theorem gX0_isGivenDead_X0_firstSquareGiven : GoodIn wsX0_isGivenDead (wsV RX0 116 RX0 yX0_firstSquareGiven wsX0_firstSquareGiven) := goodIn_app (goodIn_of _ (by decide +kernel)) ggX0_isGivenDead_X0_firstSquareGiven
set_option maxRecDepth 20000 in
theorem ggX0_isGivenDead_X0_colourOf : GoodIn wsX0_isGivenDead wsX0_colourOf := goodIn_r _ [20] (by decide +kernel) (by decide +kernel)
set_option maxRecDepth 20000 in
theorem gX0_isGivenDead_X0_colourOf : GoodIn wsX0_isGivenDead (va_wsS RX0 119 yX0_colourOf wsX0_colourOf) := goodIn_app (goodIn_of _ (by decide +kernel)) ggX0_isGivenDead_X0_colourOf
theorem dX0_isGivenDead_0 : decode cX0_isGivenDead 0 = .ok (.aload_n 0, 1) := by decide +kernel
theorem dX0_isGivenDead_1 : decode cX0_isGivenDead 1 = .ok (.bipush 6, 2) := by decide +kernel
theorem dX0_isGivenDead_3 : decode cX0_isGivenDead 3 = .ok (.invokevirtual 97, 3) := by decide +kernel
theorem dX0_isGivenDead_6 : decode cX0_isGivenDead 6 = .ok (.iconst 1, 1) := by decide +kernel
theorem dX0_isGivenDead_7 : decode cX0_isGivenDead 7 = .ok (.if_icmp .ne 13, 3) := by decide +kernel
theorem dX0_isGivenDead_10 : decode cX0_isGivenDead 10 = .ok (.aload_n 0, 1) := by decide +kernel
theorem dX0_isGivenDead_11 : decode cX0_isGivenDead 11 = .ok (.bipush 12, 2) := by decide +kernel
theorem dX0_isGivenDead_13 : decode cX0_isGivenDead 13 = .ok (.invokevirtual 97, 3) := by decide +kernel
theorem dX0_isGivenDead_16 : decode cX0_isGivenDead 16 = .ok (.iconst 1, 1) := by decide +kernel
theorem dX0_isGivenDead_17 : decode cX0_isGivenDead 17 = .ok (.if_icmp .eq 5, 3) := by decide +kernel
theorem dX0_isGivenDead_20 : decode cX0_isGivenDead 20 = .ok (.iconst 0, 1) := by decide +kernel
theorem dX0_isGivenDead_21 : decode cX0_isGivenDead 21 = .ok (.ireturn, 1) := by decide +kernel
theorem dX0_isGivenDead_22 : decode cX0_isGivenDead 22 = .ok (.iload_n 1, 1) := by decide +kernel
theorem dX0_isGivenDead_23 : decode cX0_isGivenDead 23 = .ok (.iconst 2, 1) := by decide +kernel
theorem dX0_isGivenDead_24 : decode cX0_isGivenDead 24 = .ok (.if_icmp .ne 5, 3) := by decide +kernel
theorem dX0_isGivenDead_27 : decode cX0_isGivenDead 27 = .ok (.iconst 1, 1) := by decide +kernel
theorem dX0_isGivenDead_28 : decode cX0_isGivenDead 28 = .ok (.ireturn, 1) := by decide +kernel
theorem dX0_isGivenDead_29 : decode cX0_isGivenDead 29 = .ok (.aload_n 0, 1) := by decide +kernel
theorem dX0_isGivenDead_30 : decode cX0_isGivenDead 30 = .ok (.iconst 3, 1) := by decide +kernel
theorem dX0_isGivenDead_31 : decode cX0_isGivenDead 31 = .ok (.invokevirtual 97, 3) := by decide +kernel
theorem dX0_isGivenDead_34 : decode cX0_isGivenDead 34 = .ok (.istore_n 2, 1) := by decide +kernel
theorem dX0_isGivenDead_35 : decode cX0_isGivenDead 35 = .ok (.aload_n 0, 1) := by decide +kernel
theorem dX0_isGivenDead_36 : decode cX0_isGivenDead 36 = .ok (.bipush 9, 2) := by decide +kernel
theorem dX0_isGivenDead_38 : decode cX0_isGivenDead 38 = .ok (.invokevirtual 97, 3) := by decide +kernel
theorem dX0_isGivenDead_41 : decode cX0_isGivenDead 41 = .ok (.istore_n 3, 1) := by decide +kernel
theorem dX0_isGivenDead_42 : decode cX0_isGivenDead 42 = .ok (.iload_n 1, 1) := by decide +kernel
theorem dX0_isGivenDead_43 : decode cX0_isGivenDead 43 = .ok (.iconst 3, 1) := by decide +kernel
theorem dX0_isGivenDead_44 : decode cX0_isGivenDead 44 = .ok (.if_icmp .ne 29, 3) := by decide +kernel
theorem dX0_isGivenDead_47 : decode cX0_isGivenDead 47 = .ok (.iload_n 2, 1) := by decide +kernel
theorem dX0_isGivenDead_48 : decode cX0_isGivenDead 48 = .ok (.iload_n 3, 1) := by decide +kernel
theorem dX0_isGivenDead_49 : decode cX0_isGivenDead 49 = .ok (.iadd, 1) := by decide +kernel
theorem dX0_isGivenDead_50 : decode cX0_isGivenDead 50 = .ok (.aload_n 0, 1) := by decide +kernel
theorem dX0_isGivenDead_51 : decode cX0_isGivenDead 51 = .ok (.iconst 2, 1) := by decide +kernel
theorem dX0_isGivenDead_52 : decode cX0_isGivenDead 52 = .ok (.invokevirtual 97, 3) := by decide +kernel
theorem dX0_isGivenDead_55 : decode cX0_isGivenDead 55 = .ok (.iadd, 1) := by decide +kernel
theorem dX0_isGivenDead_56 : decode cX0_isGivenDead 56 = .ok (.aload_n 0, 1) := by decide +kernel
theorem dX0_isGivenDead_57 : decode cX0_isGivenDead 57 = .ok (.bipush 8, 2) := by decide +kernel
theorem dX0_isGivenDead_59 : decode cX0_isGivenDead 59 = .ok (.invokevirtual 97, 3) := by decide +kernel
theorem dX0_isGivenDead_62 : decode cX0_isGivenDead 62 = .ok (.iadd, 1) := by decide +kernel
theorem dX0_isGivenDead_63 : decode cX0_isGivenDead 63 = .ok (.iconst 1, 1) := by decide +kernel
theorem dX0_isGivenDead_64 : decode cX0_isGivenDead 64 = .ok (.if_icmp .ne 7, 3) := by decide +kernel
theorem dX0_isGivenDead_67 : decode cX0_isGivenDead 67 = .ok (.iconst 1, 1) := by decide +kernel
theorem dX0_isGivenDead_68 : decode cX0_isGivenDead 68 = .ok (.goto 4, 3) := by decide +kernel
theorem dX0_isGivenDead_71 : decode cX0_isGivenDead 71 = .ok (.iconst 0, 1) := by decide +kernel
theorem dX0_isGivenDead_72 : decode cX0_isGivenDead 72 = .ok (.ireturn, 1) := by decide +kernel
theorem dX0_isGivenDead_73 : decode cX0_isGivenDead 73 = .ok (.iload_n 1, 1) := by decide +kernel
theorem dX0_isGivenDead_74 : decode cX0_isGivenDead 74 = .ok (.iconst 4, 1) := by decide +kernel
theorem dX0_isGivenDead_75 : decode cX0_isGivenDead 75 = .ok (.if_icmp .ne 37, 3) := by decide +kernel
theorem dX0_isGivenDead_78 : decode cX0_isGivenDead 78 = .ok (.iload_n 2, 1) := by decide +kernel
theorem dX0_isGivenDead_79 : decode cX0_isGivenDead 79 = .ok (.iconst 1, 1) := by decide +kernel
theorem dX0_isGivenDead_80 : decode cX0_isGivenDead 80 = .ok (.if_icmp .ne 32, 3) := by decide +kernel
theorem dX0_isGivenDead_83 : decode cX0_isGivenDead 83 = .ok (.iload_n 3, 1) := by decide +kernel
theorem dX0_isGivenDead_84 : decode cX0_isGivenDead 84 = .ok (.iconst 1, 1) := by decide +kernel
theorem dX0_isGivenDead_85 : decode cX0_isGivenDead 85 = .ok (.if_icmp .ne 27, 3) := by decide +kernel
theorem dX0_isGivenDead_88 : decode cX0_isGivenDead 88 = .ok (.aload_n 0, 1) := by decide +kernel
theorem dX0_isGivenDead_89 : decode cX0_isGivenDead 89 = .ok (.iconst 3, 1) := by decide +kernel
theorem dX0_isGivenDead_90 : decode cX0_isGivenDead 90 = .ok (.invokevirtual 116, 3) := by decide +kernel
theorem dX0_isGivenDead_93 : decode cX0_isGivenDead 93 = .ok (.invokestatic 119, 3) := by decide +kernel
theorem dX0_isGivenDead_96 : decode cX0_isGivenDead 96 = .ok (.aload_n 0, 1) := by decide +kernel
theorem dX0_isGivenDead_97 : decode cX0_isGivenDead 97 = .ok (.bipush 9, 2) := by decide +kernel
theorem dX0_isGivenDead_99 : decode cX0_isGivenDead 99 = .ok (.invokevirtual 116, 3) := by decide +kernel
theorem dX0_isGivenDead_102 : decode cX0_isGivenDead 102 = .ok (.invokestatic 119, 3) := by decide +kernel
theorem dX0_isGivenDead_105 : decode cX0_isGivenDead 105 = .ok (.if_icmp .ne 7, 3) := by decide +kernel
theorem dX0_isGivenDead_108 : decode cX0_isGivenDead 108 = .ok (.iconst 1, 1) := by decide +kernel
theorem dX0_isGivenDead_109 : decode cX0_isGivenDead 109 = .ok (.goto 4, 3) := by decide +kernel
theorem dX0_isGivenDead_112 : decode cX0_isGivenDead 112 = .ok (.iconst 0, 1) := by decide +kernel
theorem dX0_isGivenDead_113 : decode cX0_isGivenDead 113 = .ok (.ireturn, 1) := by decide +kernel
set_option maxRecDepth 20000 in
theorem ggX0_countGiven_X0_manGiven : GoodIn wsX0_countGiven wsX0_manGiven := goodIn_r _ [5, 6, 7, 8, 4, 9, 10, 11, 12, 13] (by decide +kernel) (by decide +kernel)
set_option maxRecDepth 20000 in
theorem gX0_countGiven_X0_manGiven : GoodIn wsX0_countGiven (wsV RX0 122 RX0 yX0_manGiven wsX0_manGiven) := goodIn_app (goodIn_of _ (by decide +kernel)) ggX0_countGiven_X0_manGiven
theorem dX0_countGiven_0 : decode cX0_countGiven 0 = .ok (.iconst 0, 1) := by decide +kernel
theorem dX0_countGiven_1 : decode cX0_countGiven 1 = .ok (.istore_n 2, 1) := by decide +kernel
theorem dX0_countGiven_2 : decode cX0_countGiven 2 = .ok (.iconst 0, 1) := by decide +kernel
theorem dX0_countGiven_3 : decode cX0_countGiven 3 = .ok (.istore_n 3, 1) := by decide +kernel
theorem dX0_countGiven_4 : decode cX0_countGiven 4 = .ok (.iload_n 3, 1) := by decide +kernel
theorem dX0_countGiven_5 : decode cX0_countGiven 5 = .ok (.bipush 64, 2) := by decide +kernel
theorem dX0_countGiven_7 : decode cX0_countGiven 7 = .ok (.if_icmp .ge 21, 3) := by decide +kernel
theorem dX0_countGiven_10 : decode cX0_countGiven 10 = .ok (.aload_n 0, 1) := by decide +kernel
theorem dX0_countGiven_11 : decode cX0_countGiven 11 = .ok (.iload_n 3, 1) := by decide +kernel
theorem dX0_countGiven_12 : decode cX0_countGiven 12 = .ok (.invokevirtual 122, 3) := by decide +kernel
theorem dX0_countGiven_15 : decode cX0_countGiven 15 = .ok (.iload_n 1, 1) := by decide +kernel
theorem dX0_countGiven_16 : decode cX0_countGiven 16 = .ok (.if_icmp .ne 6, 3) := by decide +kernel
theorem dX0_countGiven_19 : decode cX0_countGiven 19 = .ok (.iinc 2 1, 3) := by decide +kernel
theorem dX0_countGiven_22 : decode cX0_countGiven 22 = .ok (.iinc 3 1, 3) := by decide +kernel
theorem dX0_countGiven_25 : decode cX0_countGiven 25 = .ok (.goto (-21), 3) := by decide +kernel
theorem dX0_countGiven_28 : decode cX0_countGiven 28 = .ok (.iload_n 2, 1) := by decide +kernel
theorem dX0_countGiven_29 : decode cX0_countGiven 29 = .ok (.ireturn, 1) := by decide +kernel
set_option maxRecDepth 20000 in
theorem ggX0_firstSquareGiven_X0_manGiven : GoodIn wsX0_firstSquareGiven wsX0_manGiven := goodIn_r _ [5, 6, 7, 8, 4, 9, 10, 11, 12, 13] (by decide +kernel) (by decide +kernel)
set_option maxRecDepth 20000 in
theorem gX0_firstSquareGiven_X0_manGiven : GoodIn wsX0_firstSquareGiven (wsV RX0 122 RX0 yX0_manGiven wsX0_manGiven) := goodIn_app (goodIn_of _ (by decide +kernel)) ggX0_firstSquareGiven_X0_manGiven
theorem dX0_firstSquareGiven_0 : decode cX0_firstSquareGiven 0 = .ok (.iconst 0, 1) := by decide +kernel
theorem dX0_firstSquareGiven_1 : decode cX0_firstSquareGiven 1 = .ok (.istore_n 2, 1) := by decide +kernel
theorem dX0_firstSquareGiven_2 : decode cX0_firstSquareGiven 2 = .ok (.iload_n 2, 1) := by decide +kernel
theorem dX0_firstSquareGiven_3 : decode cX0_firstSquareGiven 3 = .ok (.bipush 64, 2) := by decide +kernel
theorem dX0_firstSquareGiven_5 : decode cX0_firstSquareGiven 5 = .ok (.if_icmp .ge 20, 3) := by decide +kernel
theorem dX0_firstSquareGiven_8 : decode cX0_firstSquareGiven 8 = .ok (.aload_n 0, 1) := by decide +kernel
theorem dX0_firstSquareGiven_9 : decode cX0_firstSquareGiven 9 = .ok (.iload_n 2, 1) := by decide +kernel
theorem dX0_firstSquareGiven_10 : decode cX0_firstSquareGiven 10 = .ok (.invokevirtual 122, 3) := by decide +kernel
theorem dX0_firstSquareGiven_13 : decode cX0_firstSquareGiven 13 = .ok (.iload_n 1, 1) := by decide +kernel
theorem dX0_firstSquareGiven_14 : decode cX0_firstSquareGiven 14 = .ok (.if_icmp .ne 5, 3) := by decide +kernel
theorem dX0_firstSquareGiven_17 : decode cX0_firstSquareGiven 17 = .ok (.iload_n 2, 1) := by decide +kernel
theorem dX0_firstSquareGiven_18 : decode cX0_firstSquareGiven 18 = .ok (.ireturn, 1) := by decide +kernel
theorem dX0_firstSquareGiven_19 : decode cX0_firstSquareGiven 19 = .ok (.iinc 2 1, 3) := by decide +kernel
theorem dX0_firstSquareGiven_22 : decode cX0_firstSquareGiven 22 = .ok (.goto (-20), 3) := by decide +kernel
theorem dX0_firstSquareGiven_25 : decode cX0_firstSquareGiven 25 = .ok (.iconst (-1), 1) := by decide +kernel
theorem dX0_firstSquareGiven_26 : decode cX0_firstSquareGiven 26 = .ok (.ireturn, 1) := by decide +kernel
set_option maxRecDepth 20000 in
theorem ggX0_manGiven_X0_manOfPart : GoodIn wsX0_manGiven wsX0_manOfPart := goodIn_r _ [5] (by decide +kernel) (by decide +kernel)
set_option maxRecDepth 20000 in
theorem gX0_manGiven_X0_manOfPart : GoodIn wsX0_manGiven (va_wsS RX0 93 yX0_manOfPart wsX0_manOfPart) := goodIn_app (goodIn_of _ (by decide +kernel)) ggX0_manGiven_X0_manOfPart
theorem dX0_manGiven_0 : decode cX0_manGiven 0 = .ok (.aload_n 0, 1) := by decide +kernel
theorem dX0_manGiven_1 : decode cX0_manGiven 1 = .ok (.getfield 9, 3) := by decide +kernel
theorem dX0_manGiven_4 : decode cX0_manGiven 4 = .ok (.iload_n 1, 1) := by decide +kernel
theorem dX0_manGiven_5 : decode cX0_manGiven 5 = .ok (.iconst 4, 1) := by decide +kernel
theorem dX0_manGiven_6 : decode cX0_manGiven 6 = .ok (.ishr, 1) := by decide +kernel
theorem dX0_manGiven_7 : decode cX0_manGiven 7 = .ok (.laload, 1) := by decide +kernel
theorem dX0_manGiven_8 : decode cX0_manGiven 8 = .ok (.iload_n 1, 1) := by decide +kernel
theorem dX0_manGiven_9 : decode cX0_manGiven 9 = .ok (.bipush 15, 2) := by decide +kernel
theorem dX0_manGiven_11 : decode cX0_manGiven 11 = .ok (.iand, 1) := by decide +kernel
theorem dX0_manGiven_12 : decode cX0_manGiven 12 = .ok (.invokestatic 93, 3) := by decide +kernel
theorem dX0_manGiven_15 : decode cX0_manGiven 15 = .ok (.ireturn, 1) := by decide +kernel
theorem dX0_colourOf_0 : decode cX0_colourOf 0 = .ok (.iload_n 0, 1) := by decide +kernel
theorem dX0_colourOf_1 : decode cX0_colourOf 1 = .ok (.bipush 7, 2) := by decide +kernel
theorem dX0_colourOf_3 : decode cX0_colourOf 3 = .ok (.iand, 1) := by decide +kernel
theorem dX0_colourOf_4 : decode cX0_colourOf 4 = .ok (.istore_n 1, 1) := by decide +kernel
theorem dX0_colourOf_5 : decode cX0_colourOf 5 = .ok (.iload_n 0, 1) := by decide +kernel
theorem dX0_colourOf_6 : decode cX0_colourOf 6 = .ok (.iconst 3, 1) := by decide +kernel
theorem dX0_colourOf_7 : decode cX0_colourOf 7 = .ok (.ishr, 1) := by decide +kernel
theorem dX0_colourOf_8 : decode cX0_colourOf 8 = .ok (.istore_n 2, 1) := by decide +kernel
theorem dX0_colourOf_9 : decode cX0_colourOf 9 = .ok (.iload_n 1, 1) := by decide +kernel
theorem dX0_colourOf_10 : decode cX0_colourOf 10 = .ok (.iload_n 2, 1) := by decide +kernel
theorem dX0_colourOf_11 : decode cX0_colourOf 11 = .ok (.iadd, 1) := by decide +kernel
theorem dX0_colourOf_12 : decode cX0_colourOf 12 = .ok (.iconst 1, 1) := by decide +kernel
theorem dX0_colourOf_13 : decode cX0_colourOf 13 = .ok (.iand, 1) := by decide +kernel
theorem dX0_colourOf_14 : decode cX0_colourOf 14 = .ok (.ireturn, 1) := by decide +kernel
set_option maxRecDepth 20000 in
theorem ggX0_differentPositions_X0_factOf : GoodIn wsX0_differentPositions wsX0_factOf := goodIn_r _ [6, 7, 8, 9, 10, 11] (by decide +kernel) (by decide +kernel)
set_option maxRecDepth 20000 in
theorem gX0_differentPositions_X0_factOf : GoodIn wsX0_differentPositions (wsV RX0 63 RX0 yX0_factOf wsX0_factOf) := goodIn_app (goodIn_of _ (by decide +kernel)) ggX0_differentPositions_X0_factOf
theorem dX0_differentPositions_0 : decode cX0_differentPositions 0 = .ok (.iconst 0, 1) := by decide +kernel
theorem dX0_differentPositions_1 : decode cX0_differentPositions 1 = .ok (.istore_n 1, 1) := by decide +kernel
theorem dX0_differentPositions_2 : decode cX0_differentPositions 2 = .ok (.iconst 0, 1) := by decide +kernel
theorem dX0_differentPositions_3 : decode cX0_differentPositions 3 = .ok (.istore_n 2, 1) := by decide +kernel
theorem dX0_differentPositions_4 : decode cX0_differentPositions 4 = .ok (.iload_n 2, 1) := by decide +kernel
theorem dX0_differentPositions_5 : decode cX0_differentPositions 5 = .ok (.aload_n 0, 1) := by decide +kernel
theorem dX0_differentPositions_6 : decode cX0_differentPositions 6 = .ok (.getfield 20, 3) := by decide +kernel
theorem dX0_differentPositions_9 : decode cX0_differentPositions 9 = .ok (.if_icmp .ge 22, 3) := by decide +kernel
theorem dX0_differentPositions_12 : decode cX0_differentPositions 12 = .ok (.aload_n 0, 1) := by decide +kernel
theorem dX0_differentPositions_13 : decode cX0_differentPositions 13 = .ok (.iload_n 2, 1) := by decide +kernel
theorem dX0_differentPositions_14 : decode cX0_differentPositions 14 = .ok (.iconst 4, 1) := by decide +kernel
theorem dX0_differentPositions_15 : decode cX0_differentPositions 15 = .ok (.invokevirtual 63, 3) := by decide +kernel
theorem dX0_differentPositions_18 : decode cX0_differentPositions 18 = .ok (.iconst (-1), 1) := by decide +kernel
theorem dX0_differentPositions_19 : decode cX0_differentPositions 19 = .ok (.if_icmp .ne 6, 3) := by decide +kernel
theorem dX0_differentPositions_22 : decode cX0_differentPositions 22 = .ok (.iinc 1 1, 3) := by decide +kernel
theorem dX0_differentPositions_25 : decode cX0_differentPositions 25 = .ok (.iinc 2 1, 3) := by decide +kernel
theorem dX0_differentPositions_28 : decode cX0_differentPositions 28 = .ok (.goto (-24), 3) := by decide +kernel
theorem dX0_differentPositions_31 : decode cX0_differentPositions 31 = .ok (.iload_n 1, 1) := by decide +kernel
theorem dX0_differentPositions_32 : decode cX0_differentPositions 32 = .ok (.ireturn, 1) := by decide +kernel
set_option maxRecDepth 20000 in
theorem ggX0_greatest_X0_factOf : GoodIn wsX0_greatest wsX0_factOf := goodIn_r _ [10, 11, 12, 13, 14, 15] (by decide +kernel) (by decide +kernel)
set_option maxRecDepth 20000 in
theorem gX0_greatest_X0_factOf : GoodIn wsX0_greatest (wsV RX0 63 RX0 yX0_factOf wsX0_factOf) := goodIn_app (goodIn_of _ (by decide +kernel)) ggX0_greatest_X0_factOf
theorem dX0_greatest_0 : decode cX0_greatest 0 = .ok (.iconst 0, 1) := by decide +kernel
theorem dX0_greatest_1 : decode cX0_greatest 1 = .ok (.istore_n 2, 1) := by decide +kernel
theorem dX0_greatest_2 : decode cX0_greatest 2 = .ok (.iconst 0, 1) := by decide +kernel
theorem dX0_greatest_3 : decode cX0_greatest 3 = .ok (.istore_n 3, 1) := by decide +kernel
theorem dX0_greatest_4 : decode cX0_greatest 4 = .ok (.iload_n 3, 1) := by decide +kernel
theorem dX0_greatest_5 : decode cX0_greatest 5 = .ok (.aload_n 0, 1) := by decide +kernel
theorem dX0_greatest_6 : decode cX0_greatest 6 = .ok (.getfield 20, 3) := by decide +kernel
theorem dX0_greatest_9 : decode cX0_greatest 9 = .ok (.if_icmp .ge 20, 3) := by decide +kernel
theorem dX0_greatest_12 : decode cX0_greatest 12 = .ok (.iload_n 2, 1) := by decide +kernel
theorem dX0_greatest_13 : decode cX0_greatest 13 = .ok (.aload_n 0, 1) := by decide +kernel
theorem dX0_greatest_14 : decode cX0_greatest 14 = .ok (.iload_n 3, 1) := by decide +kernel
theorem dX0_greatest_15 : decode cX0_greatest 15 = .ok (.iload_n 1, 1) := by decide +kernel
theorem dX0_greatest_16 : decode cX0_greatest 16 = .ok (.invokevirtual 63, 3) := by decide +kernel
theorem dX0_greatest_19 : decode cX0_greatest 19 = .ok (.invokestatic 125, 3) := by decide +kernel
theorem dX0_greatest_22 : decode cX0_greatest 22 = .ok (.istore_n 2, 1) := by decide +kernel
theorem dX0_greatest_23 : decode cX0_greatest 23 = .ok (.iinc 3 1, 3) := by decide +kernel
theorem dX0_greatest_26 : decode cX0_greatest 26 = .ok (.goto (-22), 3) := by decide +kernel
theorem dX0_greatest_29 : decode cX0_greatest 29 = .ok (.iload_n 2, 1) := by decide +kernel
theorem dX0_greatest_30 : decode cX0_greatest 30 = .ok (.ireturn, 1) := by decide +kernel
theorem dX1_init_0 : decode cX1_init 0 = .ok (.aload_n 0, 1) := by decide +kernel
theorem dX1_init_1 : decode cX1_init 1 = .ok (.invokespecial 1, 3) := by decide +kernel
theorem dX1_init_4 : decode cX1_init 4 = .ok (.aload_n 0, 1) := by decide +kernel
theorem dX1_init_5 : decode cX1_init 5 = .ok (.bipush 64, 2) := by decide +kernel
theorem dX1_init_7 : decode cX1_init 7 = .ok (.newarray .int, 2) := by decide +kernel
theorem dX1_init_9 : decode cX1_init 9 = .ok (.putfield 7, 3) := by decide +kernel
theorem dX1_init_12 : decode cX1_init 12 = .ok (.aload_n 0, 1) := by decide +kernel
theorem dX1_init_13 : decode cX1_init 13 = .ok (.ldc 13, 2) := by decide +kernel
theorem dX1_init_15 : decode cX1_init 15 = .ok (.newarray .int, 2) := by decide +kernel
theorem dX1_init_17 : decode cX1_init 17 = .ok (.putfield 14, 3) := by decide +kernel
theorem dX1_init_20 : decode cX1_init 20 = .ok (.aload_n 0, 1) := by decide +kernel
theorem dX1_init_21 : decode cX1_init 21 = .ok (.sipush 640, 3) := by decide +kernel
theorem dX1_init_24 : decode cX1_init 24 = .ok (.newarray .int, 2) := by decide +kernel
theorem dX1_init_26 : decode cX1_init 26 = .ok (.putfield 17, 3) := by decide +kernel
theorem dX1_init_29 : decode cX1_init 29 = .ok (.aload_n 0, 1) := by decide +kernel
theorem dX1_init_30 : decode cX1_init 30 = .ok (.sipush 640, 3) := by decide +kernel
theorem dX1_init_33 : decode cX1_init 33 = .ok (.newarray .int, 2) := by decide +kernel
theorem dX1_init_35 : decode cX1_init 35 = .ok (.putfield 20, 3) := by decide +kernel
theorem dX1_init_38 : decode cX1_init 38 = .ok (.aload_n 0, 1) := by decide +kernel
theorem dX1_init_39 : decode cX1_init 39 = .ok (.sipush 640, 3) := by decide +kernel
theorem dX1_init_42 : decode cX1_init 42 = .ok (.newarray .int, 2) := by decide +kernel
theorem dX1_init_44 : decode cX1_init 44 = .ok (.putfield 23, 3) := by decide +kernel
theorem dX1_init_47 : decode cX1_init 47 = .ok (.return_, 1) := by decide +kernel
theorem dX1_thrown_0 : decode cX1_thrown 0 = .ok (.aload_n 0, 1) := by decide +kernel
theorem dX1_thrown_1 : decode cX1_thrown 1 = .ok (.getfield 26, 3) := by decide +kernel
theorem dX1_thrown_4 : decode cX1_thrown 4 = .ok (.ireturn, 1) := by decide +kernel
theorem dX1_squares_0 : decode cX1_squares 0 = .ok (.aload_n 0, 1) := by decide +kernel
theorem dX1_squares_1 : decode cX1_squares 1 = .ok (.iconst 0, 1) := by decide +kernel
theorem dX1_squares_2 : decode cX1_squares 2 = .ok (.putfield 26, 3) := by decide +kernel
theorem dX1_squares_5 : decode cX1_squares 5 = .ok (.iload_n 1, 1) := by decide +kernel
theorem dX1_squares_6 : decode cX1_squares 6 = .ok (.ifCond .lt 8, 3) := by decide +kernel
theorem dX1_squares_9 : decode cX1_squares 9 = .ok (.iload_n 1, 1) := by decide +kernel
theorem dX1_squares_10 : decode cX1_squares 10 = .ok (.iconst 3, 1) := by decide +kernel
theorem dX1_squares_11 : decode cX1_squares 11 = .ok (.if_icmp .le 5, 3) := by decide +kernel
theorem dX1_squares_14 : decode cX1_squares 14 = .ok (.iconst 0, 1) := by decide +kernel
theorem dX1_squares_15 : decode cX1_squares 15 = .ok (.ireturn, 1) := by decide +kernel
theorem dX1_squares_16 : decode cX1_squares 16 = .ok (.iconst 0, 1) := by decide +kernel
theorem dX1_squares_17 : decode cX1_squares 17 = .ok (.istore 4, 2) := by decide +kernel
theorem dX1_squares_19 : decode cX1_squares 19 = .ok (.iload 4, 2) := by decide +kernel
theorem dX1_squares_21 : decode cX1_squares 21 = .ok (.bipush 16, 2) := by decide +kernel
theorem dX1_squares_23 : decode cX1_squares 23 = .ok (.if_icmp .ge 28, 3) := by decide +kernel
theorem dX1_squares_26 : decode cX1_squares 26 = .ok (.lload_n 2, 1) := by decide +kernel
theorem dX1_squares_27 : decode cX1_squares 27 = .ok (.iconst 4, 1) := by decide +kernel
theorem dX1_squares_28 : decode cX1_squares 28 = .ok (.iload 4, 2) := by decide +kernel
theorem dX1_squares_30 : decode cX1_squares 30 = .ok (.imul, 1) := by decide +kernel
theorem dX1_squares_31 : decode cX1_squares 31 = .ok (.lshr, 1) := by decide +kernel
theorem dX1_squares_32 : decode cX1_squares 32 = .ok (.ldc2_w 30, 3) := by decide +kernel
theorem dX1_squares_35 : decode cX1_squares 35 = .ok (.land, 1) := by decide +kernel
theorem dX1_squares_36 : decode cX1_squares 36 = .ok (.ldc2_w 32, 3) := by decide +kernel
theorem dX1_squares_39 : decode cX1_squares 39 = .ok (.lcmp, 1) := by decide +kernel
theorem dX1_squares_40 : decode cX1_squares 40 = .ok (.ifCond .le 5, 3) := by decide +kernel
theorem dX1_squares_43 : decode cX1_squares 43 = .ok (.iconst 0, 1) := by decide +kernel
theorem dX1_squares_44 : decode cX1_squares 44 = .ok (.ireturn, 1) := by decide +kernel
theorem dX1_squares_45 : decode cX1_squares 45 = .ok (.iinc 4 1, 3) := by decide +kernel
theorem dX1_squares_48 : decode cX1_squares 48 = .ok (.goto (-29), 3) := by decide +kernel
theorem dX1_squares_51 : decode cX1_squares 51 = .ok (.iconst 0, 1) := by decide +kernel
theorem dX1_squares_52 : decode cX1_squares 52 = .ok (.istore 4, 2) := by decide +kernel
theorem dX1_squares_54 : decode cX1_squares 54 = .ok (.iload 4, 2) := by decide +kernel
theorem dX1_squares_56 : decode cX1_squares 56 = .ok (.bipush 16, 2) := by decide +kernel
theorem dX1_squares_58 : decode cX1_squares 58 = .ok (.if_icmp .ge 35, 3) := by decide +kernel
theorem dX1_squares_61 : decode cX1_squares 61 = .ok (.aload_n 0, 1) := by decide +kernel
theorem dX1_squares_62 : decode cX1_squares 62 = .ok (.getfield 7, 3) := by decide +kernel
theorem dX1_squares_65 : decode cX1_squares 65 = .ok (.bipush 16, 2) := by decide +kernel
theorem dX1_squares_67 : decode cX1_squares 67 = .ok (.iload_n 1, 1) := by decide +kernel
theorem dX1_squares_68 : decode cX1_squares 68 = .ok (.imul, 1) := by decide +kernel
theorem dX1_squares_69 : decode cX1_squares 69 = .ok (.iload 4, 2) := by decide +kernel
theorem dX1_squares_71 : decode cX1_squares 71 = .ok (.iadd, 1) := by decide +kernel
theorem dX1_squares_72 : decode cX1_squares 72 = .ok (.lload_n 2, 1) := by decide +kernel
theorem dX1_squares_73 : decode cX1_squares 73 = .ok (.bipush 60, 2) := by decide +kernel
theorem dX1_squares_75 : decode cX1_squares 75 = .ok (.iconst 4, 1) := by decide +kernel
theorem dX1_squares_76 : decode cX1_squares 76 = .ok (.iload 4, 2) := by decide +kernel
theorem dX1_squares_78 : decode cX1_squares 78 = .ok (.imul, 1) := by decide +kernel
theorem dX1_squares_79 : decode cX1_squares 79 = .ok (.isub, 1) := by decide +kernel
theorem dX1_squares_80 : decode cX1_squares 80 = .ok (.lshr, 1) := by decide +kernel
theorem dX1_squares_81 : decode cX1_squares 81 = .ok (.ldc2_w 30, 3) := by decide +kernel
theorem dX1_squares_84 : decode cX1_squares 84 = .ok (.land, 1) := by decide +kernel
theorem dX1_squares_85 : decode cX1_squares 85 = .ok (.l2i, 1) := by decide +kernel
theorem dX1_squares_86 : decode cX1_squares 86 = .ok (.iastore, 1) := by decide +kernel
theorem dX1_squares_87 : decode cX1_squares 87 = .ok (.iinc 4 1, 3) := by decide +kernel
theorem dX1_squares_90 : decode cX1_squares 90 = .ok (.goto (-36), 3) := by decide +kernel
theorem dX1_squares_93 : decode cX1_squares 93 = .ok (.iconst 1, 1) := by decide +kernel
theorem dX1_squares_94 : decode cX1_squares 94 = .ok (.ireturn, 1) := by decide +kernel
theorem dX1_isState_0 : decode cX1_isState 0 = .ok (.iload_n 0, 1) := by decide +kernel
theorem dX1_isState_1 : decode cX1_isState 1 = .ok (.iconst 5, 1) := by decide +kernel
theorem dX1_isState_2 : decode cX1_isState 2 = .ok (.ishr, 1) := by decide +kernel
theorem dX1_isState_3 : decode cX1_isState 3 = .ok (.istore_n 1, 1) := by decide +kernel
theorem dX1_isState_4 : decode cX1_isState 4 = .ok (.iload_n 1, 1) := by decide +kernel
theorem dX1_isState_5 : decode cX1_isState 5 = .ok (.ifCond .lt 19, 3) := by decide +kernel
theorem dX1_isState_8 : decode cX1_isState 8 = .ok (.iload_n 1, 1) := by decide +kernel
theorem dX1_isState_9 : decode cX1_isState 9 = .ok (.bipush 8, 2) := by decide +kernel
theorem dX1_isState_11 : decode cX1_isState 11 = .ok (.if_icmp .lt 9, 3) := by decide +kernel
theorem dX1_isState_14 : decode cX1_isState 14 = .ok (.iload_n 1, 1) := by decide +kernel
theorem dX1_isState_15 : decode cX1_isState 15 = .ok (.bipush 15, 2) := by decide +kernel
theorem dX1_isState_17 : decode cX1_isState 17 = .ok (.if_icmp .ne 7, 3) := by decide +kernel
theorem dX1_isState_20 : decode cX1_isState 20 = .ok (.iconst 1, 1) := by decide +kernel
theorem dX1_isState_21 : decode cX1_isState 21 = .ok (.goto 4, 3) := by decide +kernel
theorem dX1_isState_24 : decode cX1_isState 24 = .ok (.iconst 0, 1) := by decide +kernel
theorem dX1_isState_25 : decode cX1_isState 25 = .ok (.ireturn, 1) := by decide +kernel
theorem dX1_isSame_0 : decode cX1_isSame 0 = .ok (.aload_n 0, 1) := by decide +kernel
theorem dX1_isSame_1 : decode cX1_isSame 1 = .ok (.getfield 17, 3) := by decide +kernel
theorem dX1_isSame_4 : decode cX1_isSame 4 = .ok (.iload_n 1, 1) := by decide +kernel
theorem dX1_isSame_5 : decode cX1_isSame 5 = .ok (.iaload, 1) := by decide +kernel
theorem dX1_isSame_6 : decode cX1_isSame 6 = .ok (.aload_n 0, 1) := by decide +kernel
theorem dX1_isSame_7 : decode cX1_isSame 7 = .ok (.getfield 17, 3) := by decide +kernel
theorem dX1_isSame_10 : decode cX1_isSame 10 = .ok (.iload_n 2, 1) := by decide +kernel
theorem dX1_isSame_11 : decode cX1_isSame 11 = .ok (.iaload, 1) := by decide +kernel
theorem dX1_isSame_12 : decode cX1_isSame 12 = .ok (.if_icmp .ne 7, 3) := by decide +kernel
theorem dX1_isSame_15 : decode cX1_isSame 15 = .ok (.iconst 1, 1) := by decide +kernel
theorem dX1_isSame_16 : decode cX1_isSame 16 = .ok (.goto 4, 3) := by decide +kernel
theorem dX1_isSame_19 : decode cX1_isSame 19 = .ok (.iconst 0, 1) := by decide +kernel
theorem dX1_isSame_20 : decode cX1_isSame 20 = .ok (.istore_n 3, 1) := by decide +kernel
theorem dX1_isSame_21 : decode cX1_isSame 21 = .ok (.iconst 0, 1) := by decide +kernel
theorem dX1_isSame_22 : decode cX1_isSame 22 = .ok (.istore 4, 2) := by decide +kernel
theorem dX1_isSame_24 : decode cX1_isSame 24 = .ok (.iload 4, 2) := by decide +kernel
theorem dX1_isSame_26 : decode cX1_isSame 26 = .ok (.bipush 64, 2) := by decide +kernel
theorem dX1_isSame_28 : decode cX1_isSame 28 = .ok (.if_icmp .ge 46, 3) := by decide +kernel
theorem dX1_isSame_31 : decode cX1_isSame 31 = .ok (.iload_n 3, 1) := by decide +kernel
theorem dX1_isSame_32 : decode cX1_isSame 32 = .ok (.ifCond .eq 34, 3) := by decide +kernel
theorem dX1_isSame_35 : decode cX1_isSame 35 = .ok (.aload_n 0, 1) := by decide +kernel
theorem dX1_isSame_36 : decode cX1_isSame 36 = .ok (.getfield 14, 3) := by decide +kernel
theorem dX1_isSame_39 : decode cX1_isSame 39 = .ok (.bipush 64, 2) := by decide +kernel
theorem dX1_isSame_41 : decode cX1_isSame 41 = .ok (.iload_n 1, 1) := by decide +kernel
theorem dX1_isSame_42 : decode cX1_isSame 42 = .ok (.imul, 1) := by decide +kernel
theorem dX1_isSame_43 : decode cX1_isSame 43 = .ok (.iload 4, 2) := by decide +kernel
theorem dX1_isSame_45 : decode cX1_isSame 45 = .ok (.iadd, 1) := by decide +kernel
theorem dX1_isSame_46 : decode cX1_isSame 46 = .ok (.iaload, 1) := by decide +kernel
theorem dX1_isSame_47 : decode cX1_isSame 47 = .ok (.aload_n 0, 1) := by decide +kernel
theorem dX1_isSame_48 : decode cX1_isSame 48 = .ok (.getfield 14, 3) := by decide +kernel
theorem dX1_isSame_51 : decode cX1_isSame 51 = .ok (.bipush 64, 2) := by decide +kernel
theorem dX1_isSame_53 : decode cX1_isSame 53 = .ok (.iload_n 2, 1) := by decide +kernel
theorem dX1_isSame_54 : decode cX1_isSame 54 = .ok (.imul, 1) := by decide +kernel
theorem dX1_isSame_55 : decode cX1_isSame 55 = .ok (.iload 4, 2) := by decide +kernel
theorem dX1_isSame_57 : decode cX1_isSame 57 = .ok (.iadd, 1) := by decide +kernel
theorem dX1_isSame_58 : decode cX1_isSame 58 = .ok (.iaload, 1) := by decide +kernel
theorem dX1_isSame_59 : decode cX1_isSame 59 = .ok (.if_icmp .ne 7, 3) := by decide +kernel
theorem dX1_isSame_62 : decode cX1_isSame 62 = .ok (.iconst 1, 1) := by decide +kernel
theorem dX1_isSame_63 : decode cX1_isSame 63 = .ok (.goto 4, 3) := by decide +kernel
theorem dX1_isSame_66 : decode cX1_isSame 66 = .ok (.iconst 0, 1) := by decide +kernel
theorem dX1_isSame_67 : decode cX1_isSame 67 = .ok (.istore_n 3, 1) := by decide +kernel
theorem dX1_isSame_68 : decode cX1_isSame 68 = .ok (.iinc 4 1, 3) := by decide +kernel
theorem dX1_isSame_71 : decode cX1_isSame 71 = .ok (.goto (-47), 3) := by decide +kernel
theorem dX1_isSame_74 : decode cX1_isSame 74 = .ok (.iload_n 3, 1) := by decide +kernel
theorem dX1_isSame_75 : decode cX1_isSame 75 = .ok (.ireturn, 1) := by decide +kernel
theorem dX1_isNext_0 : decode cX1_isNext 0 = .ok (.aload_n 0, 1) := by decide +kernel
theorem dX1_isNext_1 : decode cX1_isNext 1 = .ok (.getfield 17, 3) := by decide +kernel
theorem dX1_isNext_4 : decode cX1_isNext 4 = .ok (.iload_n 1, 1) := by decide +kernel
theorem dX1_isNext_5 : decode cX1_isNext 5 = .ok (.iaload, 1) := by decide +kernel
theorem dX1_isNext_6 : decode cX1_isNext 6 = .ok (.iload_n 2, 1) := by decide +kernel
theorem dX1_isNext_7 : decode cX1_isNext 7 = .ok (.if_icmp .ne 7, 3) := by decide +kernel
theorem dX1_isNext_10 : decode cX1_isNext 10 = .ok (.iconst 1, 1) := by decide +kernel
theorem dX1_isNext_11 : decode cX1_isNext 11 = .ok (.goto 4, 3) := by decide +kernel
theorem dX1_isNext_14 : decode cX1_isNext 14 = .ok (.iconst 0, 1) := by decide +kernel
theorem dX1_isNext_15 : decode cX1_isNext 15 = .ok (.istore_n 3, 1) := by decide +kernel
theorem dX1_isNext_16 : decode cX1_isNext 16 = .ok (.iconst 0, 1) := by decide +kernel
theorem dX1_isNext_17 : decode cX1_isNext 17 = .ok (.istore 4, 2) := by decide +kernel
theorem dX1_isNext_19 : decode cX1_isNext 19 = .ok (.iload 4, 2) := by decide +kernel
theorem dX1_isNext_21 : decode cX1_isNext 21 = .ok (.bipush 64, 2) := by decide +kernel
theorem dX1_isNext_23 : decode cX1_isNext 23 = .ok (.if_icmp .ge 41, 3) := by decide +kernel
theorem dX1_isNext_26 : decode cX1_isNext 26 = .ok (.iload_n 3, 1) := by decide +kernel
theorem dX1_isNext_27 : decode cX1_isNext 27 = .ok (.ifCond .eq 29, 3) := by decide +kernel
theorem dX1_isNext_30 : decode cX1_isNext 30 = .ok (.aload_n 0, 1) := by decide +kernel
theorem dX1_isNext_31 : decode cX1_isNext 31 = .ok (.getfield 14, 3) := by decide +kernel
theorem dX1_isNext_34 : decode cX1_isNext 34 = .ok (.bipush 64, 2) := by decide +kernel
theorem dX1_isNext_36 : decode cX1_isNext 36 = .ok (.iload_n 1, 1) := by decide +kernel
theorem dX1_isNext_37 : decode cX1_isNext 37 = .ok (.imul, 1) := by decide +kernel
theorem dX1_isNext_38 : decode cX1_isNext 38 = .ok (.iload 4, 2) := by decide +kernel
theorem dX1_isNext_40 : decode cX1_isNext 40 = .ok (.iadd, 1) := by decide +kernel
theorem dX1_isNext_41 : decode cX1_isNext 41 = .ok (.iaload, 1) := by decide +kernel
theorem dX1_isNext_42 : decode cX1_isNext 42 = .ok (.aload_n 0, 1) := by decide +kernel
theorem dX1_isNext_43 : decode cX1_isNext 43 = .ok (.getfield 7, 3) := by decide +kernel
theorem dX1_isNext_46 : decode cX1_isNext 46 = .ok (.iload 4, 2) := by decide +kernel
theorem dX1_isNext_48 : decode cX1_isNext 48 = .ok (.iaload, 1) := by decide +kernel
theorem dX1_isNext_49 : decode cX1_isNext 49 = .ok (.if_icmp .ne 7, 3) := by decide +kernel
theorem dX1_isNext_52 : decode cX1_isNext 52 = .ok (.iconst 1, 1) := by decide +kernel
theorem dX1_isNext_53 : decode cX1_isNext 53 = .ok (.goto 4, 3) := by decide +kernel
theorem dX1_isNext_56 : decode cX1_isNext 56 = .ok (.iconst 0, 1) := by decide +kernel
theorem dX1_isNext_57 : decode cX1_isNext 57 = .ok (.istore_n 3, 1) := by decide +kernel
theorem dX1_isNext_58 : decode cX1_isNext 58 = .ok (.iinc 4 1, 3) := by decide +kernel
theorem dX1_isNext_61 : decode cX1_isNext 61 = .ok (.goto (-42), 3) := by decide +kernel
theorem dX1_isNext_64 : decode cX1_isNext 64 = .ok (.iload_n 3, 1) := by decide +kernel
theorem dX1_isNext_65 : decode cX1_isNext 65 = .ok (.ireturn, 1) := by decide +kernel
set_option maxRecDepth 20000 in
theorem ggX1_countOf_X1_isSame : GoodIn wsX1_countOf wsX1_isSame := goodIn_r _ [5, 6, 7, 8, 9, 10, 11, 12, 13, 14] (by decide +kernel) (by decide +kernel)
set_option maxRecDepth 20000 in
theorem gX1_countOf_X1_isSame : GoodIn wsX1_countOf (wsV RX1 34 RX1 yX1_isSame wsX1_isSame) := goodIn_app (goodIn_of _ (by decide +kernel)) ggX1_countOf_X1_isSame
theorem dX1_countOf_0 : decode cX1_countOf 0 = .ok (.iconst 0, 1) := by decide +kernel
theorem dX1_countOf_1 : decode cX1_countOf 1 = .ok (.istore_n 2, 1) := by decide +kernel
theorem dX1_countOf_2 : decode cX1_countOf 2 = .ok (.iconst 0, 1) := by decide +kernel
theorem dX1_countOf_3 : decode cX1_countOf 3 = .ok (.istore_n 3, 1) := by decide +kernel
theorem dX1_countOf_4 : decode cX1_countOf 4 = .ok (.iload_n 3, 1) := by decide +kernel
theorem dX1_countOf_5 : decode cX1_countOf 5 = .ok (.iload_n 1, 1) := by decide +kernel
theorem dX1_countOf_6 : decode cX1_countOf 6 = .ok (.if_icmp .gt 26, 3) := by decide +kernel
theorem dX1_countOf_9 : decode cX1_countOf 9 = .ok (.iload_n 2, 1) := by decide +kernel
theorem dX1_countOf_10 : decode cX1_countOf 10 = .ok (.aload_n 0, 1) := by decide +kernel
theorem dX1_countOf_11 : decode cX1_countOf 11 = .ok (.iload_n 1, 1) := by decide +kernel
theorem dX1_countOf_12 : decode cX1_countOf 12 = .ok (.iload_n 3, 1) := by decide +kernel
theorem dX1_countOf_13 : decode cX1_countOf 13 = .ok (.invokevirtual 34, 3) := by decide +kernel
theorem dX1_countOf_16 : decode cX1_countOf 16 = .ok (.ifCond .eq 7, 3) := by decide +kernel
theorem dX1_countOf_19 : decode cX1_countOf 19 = .ok (.iconst 1, 1) := by decide +kernel
theorem dX1_countOf_20 : decode cX1_countOf 20 = .ok (.goto 4, 3) := by decide +kernel
theorem dX1_countOf_23 : decode cX1_countOf 23 = .ok (.iconst 0, 1) := by decide +kernel
theorem dX1_countOf_24 : decode cX1_countOf 24 = .ok (.iadd, 1) := by decide +kernel
theorem dX1_countOf_25 : decode cX1_countOf 25 = .ok (.istore_n 2, 1) := by decide +kernel
theorem dX1_countOf_26 : decode cX1_countOf 26 = .ok (.iinc 3 1, 3) := by decide +kernel
theorem dX1_countOf_29 : decode cX1_countOf 29 = .ok (.goto (-25), 3) := by decide +kernel
theorem dX1_countOf_32 : decode cX1_countOf 32 = .ok (.iload_n 2, 1) := by decide +kernel
theorem dX1_countOf_33 : decode cX1_countOf 33 = .ok (.ireturn, 1) := by decide +kernel
theorem dX1_howMany_0 : decode cX1_howMany 0 = .ok (.iconst 0, 1) := by decide +kernel
theorem dX1_howMany_1 : decode cX1_howMany 1 = .ok (.istore_n 3, 1) := by decide +kernel
theorem dX1_howMany_2 : decode cX1_howMany 2 = .ok (.iconst 0, 1) := by decide +kernel
theorem dX1_howMany_3 : decode cX1_howMany 3 = .ok (.istore 4, 2) := by decide +kernel
theorem dX1_howMany_5 : decode cX1_howMany 5 = .ok (.iload 4, 2) := by decide +kernel
theorem dX1_howMany_7 : decode cX1_howMany 7 = .ok (.bipush 64, 2) := by decide +kernel
theorem dX1_howMany_9 : decode cX1_howMany 9 = .ok (.if_icmp .ge 33, 3) := by decide +kernel
theorem dX1_howMany_12 : decode cX1_howMany 12 = .ok (.iload_n 3, 1) := by decide +kernel
theorem dX1_howMany_13 : decode cX1_howMany 13 = .ok (.aload_n 0, 1) := by decide +kernel
theorem dX1_howMany_14 : decode cX1_howMany 14 = .ok (.getfield 14, 3) := by decide +kernel
theorem dX1_howMany_17 : decode cX1_howMany 17 = .ok (.bipush 64, 2) := by decide +kernel
theorem dX1_howMany_19 : decode cX1_howMany 19 = .ok (.iload_n 1, 1) := by decide +kernel
theorem dX1_howMany_20 : decode cX1_howMany 20 = .ok (.imul, 1) := by decide +kernel
theorem dX1_howMany_21 : decode cX1_howMany 21 = .ok (.iload 4, 2) := by decide +kernel
theorem dX1_howMany_23 : decode cX1_howMany 23 = .ok (.iadd, 1) := by decide +kernel
theorem dX1_howMany_24 : decode cX1_howMany 24 = .ok (.iaload, 1) := by decide +kernel
theorem dX1_howMany_25 : decode cX1_howMany 25 = .ok (.iload_n 2, 1) := by decide +kernel
theorem dX1_howMany_26 : decode cX1_howMany 26 = .ok (.if_icmp .ne 7, 3) := by decide +kernel
theorem dX1_howMany_29 : decode cX1_howMany 29 = .ok (.iconst 1, 1) := by decide +kernel
theorem dX1_howMany_30 : decode cX1_howMany 30 = .ok (.goto 4, 3) := by decide +kernel
theorem dX1_howMany_33 : decode cX1_howMany 33 = .ok (.iconst 0, 1) := by decide +kernel
theorem dX1_howMany_34 : decode cX1_howMany 34 = .ok (.iadd, 1) := by decide +kernel
theorem dX1_howMany_35 : decode cX1_howMany 35 = .ok (.istore_n 3, 1) := by decide +kernel
theorem dX1_howMany_36 : decode cX1_howMany 36 = .ok (.iinc 4 1, 3) := by decide +kernel
theorem dX1_howMany_39 : decode cX1_howMany 39 = .ok (.goto (-34), 3) := by decide +kernel
theorem dX1_howMany_42 : decode cX1_howMany 42 = .ok (.iload_n 3, 1) := by decide +kernel
theorem dX1_howMany_43 : decode cX1_howMany 43 = .ok (.ireturn, 1) := by decide +kernel
theorem dX1_colour_0 : decode cX1_colour 0 = .ok (.iconst 0, 1) := by decide +kernel
theorem dX1_colour_1 : decode cX1_colour 1 = .ok (.istore_n 3, 1) := by decide +kernel
theorem dX1_colour_2 : decode cX1_colour 2 = .ok (.iconst 0, 1) := by decide +kernel
theorem dX1_colour_3 : decode cX1_colour 3 = .ok (.istore 4, 2) := by decide +kernel
theorem dX1_colour_5 : decode cX1_colour 5 = .ok (.iload 4, 2) := by decide +kernel
theorem dX1_colour_7 : decode cX1_colour 7 = .ok (.bipush 64, 2) := by decide +kernel
theorem dX1_colour_9 : decode cX1_colour 9 = .ok (.if_icmp .ge 43, 3) := by decide +kernel
theorem dX1_colour_12 : decode cX1_colour 12 = .ok (.aload_n 0, 1) := by decide +kernel
theorem dX1_colour_13 : decode cX1_colour 13 = .ok (.getfield 14, 3) := by decide +kernel
theorem dX1_colour_16 : decode cX1_colour 16 = .ok (.bipush 64, 2) := by decide +kernel
theorem dX1_colour_18 : decode cX1_colour 18 = .ok (.iload_n 1, 1) := by decide +kernel
theorem dX1_colour_19 : decode cX1_colour 19 = .ok (.imul, 1) := by decide +kernel
theorem dX1_colour_20 : decode cX1_colour 20 = .ok (.iload 4, 2) := by decide +kernel
theorem dX1_colour_22 : decode cX1_colour 22 = .ok (.iadd, 1) := by decide +kernel
theorem dX1_colour_23 : decode cX1_colour 23 = .ok (.iaload, 1) := by decide +kernel
theorem dX1_colour_24 : decode cX1_colour 24 = .ok (.iload_n 2, 1) := by decide +kernel
theorem dX1_colour_25 : decode cX1_colour 25 = .ok (.if_icmp .ne 19, 3) := by decide +kernel
theorem dX1_colour_28 : decode cX1_colour 28 = .ok (.iload 4, 2) := by decide +kernel
theorem dX1_colour_30 : decode cX1_colour 30 = .ok (.bipush 8, 2) := by decide +kernel
theorem dX1_colour_32 : decode cX1_colour 32 = .ok (.irem, 1) := by decide +kernel
theorem dX1_colour_33 : decode cX1_colour 33 = .ok (.iload 4, 2) := by decide +kernel
theorem dX1_colour_35 : decode cX1_colour 35 = .ok (.bipush 8, 2) := by decide +kernel
theorem dX1_colour_37 : decode cX1_colour 37 = .ok (.idiv, 1) := by decide +kernel
theorem dX1_colour_38 : decode cX1_colour 38 = .ok (.iadd, 1) := by decide +kernel
theorem dX1_colour_39 : decode cX1_colour 39 = .ok (.iconst 2, 1) := by decide +kernel
theorem dX1_colour_40 : decode cX1_colour 40 = .ok (.irem, 1) := by decide +kernel
theorem dX1_colour_41 : decode cX1_colour 41 = .ok (.goto 4, 3) := by decide +kernel
theorem dX1_colour_44 : decode cX1_colour 44 = .ok (.iload_n 3, 1) := by decide +kernel
theorem dX1_colour_45 : decode cX1_colour 45 = .ok (.istore_n 3, 1) := by decide +kernel
theorem dX1_colour_46 : decode cX1_colour 46 = .ok (.iinc 4 1, 3) := by decide +kernel
theorem dX1_colour_49 : decode cX1_colour 49 = .ok (.goto (-44), 3) := by decide +kernel
theorem dX1_colour_52 : decode cX1_colour 52 = .ok (.iload_n 3, 1) := by decide +kernel
theorem dX1_colour_53 : decode cX1_colour 53 = .ok (.ireturn, 1) := by decide +kernel
set_option maxRecDepth 20000 in
theorem ggX1_isDead_X1_howMany : GoodIn wsX1_isDead wsX1_howMany := goodIn_r _ [5, 6, 11, 12, 13, 14, 15, 16, 17] (by decide +kernel) (by decide +kernel)
set_option maxRecDepth 20000 in
theorem gX1_isDead_X1_howMany : GoodIn wsX1_isDead (wsV RX1 38 RX1 yX1_howMany wsX1_howMany) := goodIn_app (goodIn_of _ (by decide +kernel)) ggX1_isDead_X1_howMany
set_option maxRecDepth 20000 in
theorem ggX1_isDead_X1_colour : GoodIn wsX1_isDead wsX1_colour := goodIn_r _ [10, 6, 11, 12, 13, 14, 15, 16, 17] (by decide +kernel) (by decide +kernel)
set_option maxRecDepth 20000 in
theorem gX1_isDead_X1_colour : GoodIn wsX1_isDead (wsV RX1 42 RX1 yX1_colour wsX1_colour) := goodIn_app (goodIn_of _ (by decide +kernel)) ggX1_isDead_X1_colour
theorem dX1_isDead_0 : decode cX1_isDead 0 = .ok (.aload_n 0, 1) := by decide +kernel
theorem dX1_isDead_1 : decode cX1_isDead 1 = .ok (.iload_n 1, 1) := by decide +kernel
theorem dX1_isDead_2 : decode cX1_isDead 2 = .ok (.bipush 6, 2) := by decide +kernel
theorem dX1_isDead_4 : decode cX1_isDead 4 = .ok (.invokevirtual 38, 3) := by decide +kernel
theorem dX1_isDead_7 : decode cX1_isDead 7 = .ok (.iconst 1, 1) := by decide +kernel
theorem dX1_isDead_8 : decode cX1_isDead 8 = .ok (.if_icmp .ne 14, 3) := by decide +kernel
theorem dX1_isDead_11 : decode cX1_isDead 11 = .ok (.aload_n 0, 1) := by decide +kernel
theorem dX1_isDead_12 : decode cX1_isDead 12 = .ok (.iload_n 1, 1) := by decide +kernel
theorem dX1_isDead_13 : decode cX1_isDead 13 = .ok (.bipush 12, 2) := by decide +kernel
theorem dX1_isDead_15 : decode cX1_isDead 15 = .ok (.invokevirtual 38, 3) := by decide +kernel
theorem dX1_isDead_18 : decode cX1_isDead 18 = .ok (.iconst 1, 1) := by decide +kernel
theorem dX1_isDead_19 : decode cX1_isDead 19 = .ok (.if_icmp .eq 5, 3) := by decide +kernel
theorem dX1_isDead_22 : decode cX1_isDead 22 = .ok (.iconst 0, 1) := by decide +kernel
theorem dX1_isDead_23 : decode cX1_isDead 23 = .ok (.ireturn, 1) := by decide +kernel
theorem dX1_isDead_24 : decode cX1_isDead 24 = .ok (.bipush 64, 2) := by decide +kernel
theorem dX1_isDead_26 : decode cX1_isDead 26 = .ok (.aload_n 0, 1) := by decide +kernel
theorem dX1_isDead_27 : decode cX1_isDead 27 = .ok (.iload_n 1, 1) := by decide +kernel
theorem dX1_isDead_28 : decode cX1_isDead 28 = .ok (.iconst 0, 1) := by decide +kernel
theorem dX1_isDead_29 : decode cX1_isDead 29 = .ok (.invokevirtual 38, 3) := by decide +kernel
theorem dX1_isDead_32 : decode cX1_isDead 32 = .ok (.isub, 1) := by decide +kernel
theorem dX1_isDead_33 : decode cX1_isDead 33 = .ok (.istore_n 2, 1) := by decide +kernel
theorem dX1_isDead_34 : decode cX1_isDead 34 = .ok (.aload_n 0, 1) := by decide +kernel
theorem dX1_isDead_35 : decode cX1_isDead 35 = .ok (.iload_n 1, 1) := by decide +kernel
theorem dX1_isDead_36 : decode cX1_isDead 36 = .ok (.iconst 2, 1) := by decide +kernel
theorem dX1_isDead_37 : decode cX1_isDead 37 = .ok (.invokevirtual 38, 3) := by decide +kernel
theorem dX1_isDead_40 : decode cX1_isDead 40 = .ok (.aload_n 0, 1) := by decide +kernel
theorem dX1_isDead_41 : decode cX1_isDead 41 = .ok (.iload_n 1, 1) := by decide +kernel
theorem dX1_isDead_42 : decode cX1_isDead 42 = .ok (.bipush 8, 2) := by decide +kernel
theorem dX1_isDead_44 : decode cX1_isDead 44 = .ok (.invokevirtual 38, 3) := by decide +kernel
theorem dX1_isDead_47 : decode cX1_isDead 47 = .ok (.iadd, 1) := by decide +kernel
theorem dX1_isDead_48 : decode cX1_isDead 48 = .ok (.istore_n 3, 1) := by decide +kernel
theorem dX1_isDead_49 : decode cX1_isDead 49 = .ok (.aload_n 0, 1) := by decide +kernel
theorem dX1_isDead_50 : decode cX1_isDead 50 = .ok (.iload_n 1, 1) := by decide +kernel
theorem dX1_isDead_51 : decode cX1_isDead 51 = .ok (.iconst 3, 1) := by decide +kernel
theorem dX1_isDead_52 : decode cX1_isDead 52 = .ok (.invokevirtual 38, 3) := by decide +kernel
theorem dX1_isDead_55 : decode cX1_isDead 55 = .ok (.istore 4, 2) := by decide +kernel
theorem dX1_isDead_57 : decode cX1_isDead 57 = .ok (.aload_n 0, 1) := by decide +kernel
theorem dX1_isDead_58 : decode cX1_isDead 58 = .ok (.iload_n 1, 1) := by decide +kernel
theorem dX1_isDead_59 : decode cX1_isDead 59 = .ok (.bipush 9, 2) := by decide +kernel
theorem dX1_isDead_61 : decode cX1_isDead 61 = .ok (.invokevirtual 38, 3) := by decide +kernel
theorem dX1_isDead_64 : decode cX1_isDead 64 = .ok (.istore 5, 2) := by decide +kernel
theorem dX1_isDead_66 : decode cX1_isDead 66 = .ok (.iload_n 2, 1) := by decide +kernel
theorem dX1_isDead_67 : decode cX1_isDead 67 = .ok (.iconst 4, 1) := by decide +kernel
theorem dX1_isDead_68 : decode cX1_isDead 68 = .ok (.if_icmp .ge 25, 3) := by decide +kernel
theorem dX1_isDead_71 : decode cX1_isDead 71 = .ok (.iload_n 2, 1) := by decide +kernel
theorem dX1_isDead_72 : decode cX1_isDead 72 = .ok (.iconst 2, 1) := by decide +kernel
theorem dX1_isDead_73 : decode cX1_isDead 73 = .ok (.if_icmp .eq 14, 3) := by decide +kernel
theorem dX1_isDead_76 : decode cX1_isDead 76 = .ok (.iload_n 3, 1) := by decide +kernel
theorem dX1_isDead_77 : decode cX1_isDead 77 = .ok (.iload 4, 2) := by decide +kernel
theorem dX1_isDead_79 : decode cX1_isDead 79 = .ok (.iadd, 1) := by decide +kernel
theorem dX1_isDead_80 : decode cX1_isDead 80 = .ok (.iload 5, 2) := by decide +kernel
theorem dX1_isDead_82 : decode cX1_isDead 82 = .ok (.iadd, 1) := by decide +kernel
theorem dX1_isDead_83 : decode cX1_isDead 83 = .ok (.iconst 1, 1) := by decide +kernel
theorem dX1_isDead_84 : decode cX1_isDead 84 = .ok (.if_icmp .ne 7, 3) := by decide +kernel
theorem dX1_isDead_87 : decode cX1_isDead 87 = .ok (.iconst 1, 1) := by decide +kernel
theorem dX1_isDead_88 : decode cX1_isDead 88 = .ok (.goto 4, 3) := by decide +kernel
theorem dX1_isDead_91 : decode cX1_isDead 91 = .ok (.iconst 0, 1) := by decide +kernel
theorem dX1_isDead_92 : decode cX1_isDead 92 = .ok (.ireturn, 1) := by decide +kernel
theorem dX1_isDead_93 : decode cX1_isDead 93 = .ok (.iload_n 2, 1) := by decide +kernel
theorem dX1_isDead_94 : decode cX1_isDead 94 = .ok (.iconst 4, 1) := by decide +kernel
theorem dX1_isDead_95 : decode cX1_isDead 95 = .ok (.if_icmp .ne 35, 3) := by decide +kernel
theorem dX1_isDead_98 : decode cX1_isDead 98 = .ok (.iload 4, 2) := by decide +kernel
theorem dX1_isDead_100 : decode cX1_isDead 100 = .ok (.iconst 1, 1) := by decide +kernel
theorem dX1_isDead_101 : decode cX1_isDead 101 = .ok (.if_icmp .ne 29, 3) := by decide +kernel
theorem dX1_isDead_104 : decode cX1_isDead 104 = .ok (.iload 5, 2) := by decide +kernel
theorem dX1_isDead_106 : decode cX1_isDead 106 = .ok (.iconst 1, 1) := by decide +kernel
theorem dX1_isDead_107 : decode cX1_isDead 107 = .ok (.if_icmp .ne 23, 3) := by decide +kernel
theorem dX1_isDead_110 : decode cX1_isDead 110 = .ok (.aload_n 0, 1) := by decide +kernel
theorem dX1_isDead_111 : decode cX1_isDead 111 = .ok (.iload_n 1, 1) := by decide +kernel
theorem dX1_isDead_112 : decode cX1_isDead 112 = .ok (.iconst 3, 1) := by decide +kernel
theorem dX1_isDead_113 : decode cX1_isDead 113 = .ok (.invokevirtual 42, 3) := by decide +kernel
theorem dX1_isDead_116 : decode cX1_isDead 116 = .ok (.aload_n 0, 1) := by decide +kernel
theorem dX1_isDead_117 : decode cX1_isDead 117 = .ok (.iload_n 1, 1) := by decide +kernel
theorem dX1_isDead_118 : decode cX1_isDead 118 = .ok (.bipush 9, 2) := by decide +kernel
theorem dX1_isDead_120 : decode cX1_isDead 120 = .ok (.invokevirtual 42, 3) := by decide +kernel
theorem dX1_isDead_123 : decode cX1_isDead 123 = .ok (.if_icmp .ne 7, 3) := by decide +kernel
theorem dX1_isDead_126 : decode cX1_isDead 126 = .ok (.iconst 1, 1) := by decide +kernel
theorem dX1_isDead_127 : decode cX1_isDead 127 = .ok (.goto 4, 3) := by decide +kernel
theorem dX1_isDead_130 : decode cX1_isDead 130 = .ok (.iconst 0, 1) := by decide +kernel
theorem dX1_isDead_131 : decode cX1_isDead 131 = .ok (.ireturn, 1) := by decide +kernel
set_option maxRecDepth 20000 in
theorem ggX1_verdictOf_X1_countOf : GoodIn wsX1_verdictOf wsX1_countOf := goodIn_r _ [6, 7, 8, 9, 5, 10, 11, 12, 25, 26, 27, 28, 29, 30, 31] (by decide +kernel) (by decide +kernel)
set_option maxRecDepth 20000 in
theorem gX1_verdictOf_X1_countOf : GoodIn wsX1_verdictOf (wsV RX1 45 RX1 yX1_countOf wsX1_countOf) := goodIn_app (goodIn_of _ (by decide +kernel)) ggX1_verdictOf_X1_countOf
set_option maxRecDepth 20000 in
theorem ggX1_verdictOf_X1_isDead : GoodIn wsX1_verdictOf wsX1_isDead := goodIn_r _ [16, 17, 18, 19, 5, 20, 12, 21, 22, 23, 24, 25, 26, 27, 28, 29, 30, 31] (by decide +kernel) (by decide +kernel)
set_option maxRecDepth 20000 in
theorem gX1_verdictOf_X1_isDead : GoodIn wsX1_verdictOf (wsV RX1 49 RX1 yX1_isDead wsX1_isDead) := goodIn_app (goodIn_of _ (by decide +kernel)) ggX1_verdictOf_X1_isDead
theorem dX1_verdictOf_0 : decode cX1_verdictOf 0 = .ok (.iload_n 2, 1) := by decide +kernel
theorem dX1_verdictOf_1 : decode cX1_verdictOf 1 = .ok (.ifCond .ne 13, 3) := by decide +kernel
theorem dX1_verdictOf_4 : decode cX1_verdictOf 4 = .ok (.iload_n 3, 1) := by decide +kernel
theorem dX1_verdictOf_5 : decode cX1_verdictOf 5 = .ok (.ifCond .eq 7, 3) := by decide +kernel
theorem dX1_verdictOf_8 : decode cX1_verdictOf 8 = .ok (.iconst 1, 1) := by decide +kernel
theorem dX1_verdictOf_9 : decode cX1_verdictOf 9 = .ok (.goto 4, 3) := by decide +kernel
theorem dX1_verdictOf_12 : decode cX1_verdictOf 12 = .ok (.iconst 2, 1) := by decide +kernel
theorem dX1_verdictOf_13 : decode cX1_verdictOf 13 = .ok (.ireturn, 1) := by decide +kernel
theorem dX1_verdictOf_14 : decode cX1_verdictOf 14 = .ok (.aload_n 0, 1) := by decide +kernel
theorem dX1_verdictOf_15 : decode cX1_verdictOf 15 = .ok (.iload_n 1, 1) := by decide +kernel
theorem dX1_verdictOf_16 : decode cX1_verdictOf 16 = .ok (.invokevirtual 45, 3) := by decide +kernel
theorem dX1_verdictOf_19 : decode cX1_verdictOf 19 = .ok (.istore 4, 2) := by decide +kernel
theorem dX1_verdictOf_21 : decode cX1_verdictOf 21 = .ok (.aload_n 0, 1) := by decide +kernel
theorem dX1_verdictOf_22 : decode cX1_verdictOf 22 = .ok (.iload_n 1, 1) := by decide +kernel
theorem dX1_verdictOf_23 : decode cX1_verdictOf 23 = .ok (.invokevirtual 49, 3) := by decide +kernel
theorem dX1_verdictOf_26 : decode cX1_verdictOf 26 = .ok (.ifCond .eq 5, 3) := by decide +kernel
theorem dX1_verdictOf_29 : decode cX1_verdictOf 29 = .ok (.iconst 3, 1) := by decide +kernel
theorem dX1_verdictOf_30 : decode cX1_verdictOf 30 = .ok (.ireturn, 1) := by decide +kernel
theorem dX1_verdictOf_31 : decode cX1_verdictOf 31 = .ok (.iload 4, 2) := by decide +kernel
theorem dX1_verdictOf_33 : decode cX1_verdictOf 33 = .ok (.iconst 5, 1) := by decide +kernel
theorem dX1_verdictOf_34 : decode cX1_verdictOf 34 = .ok (.if_icmp .lt 5, 3) := by decide +kernel
theorem dX1_verdictOf_37 : decode cX1_verdictOf 37 = .ok (.iconst 4, 1) := by decide +kernel
theorem dX1_verdictOf_38 : decode cX1_verdictOf 38 = .ok (.ireturn, 1) := by decide +kernel
theorem dX1_verdictOf_39 : decode cX1_verdictOf 39 = .ok (.aload_n 0, 1) := by decide +kernel
theorem dX1_verdictOf_40 : decode cX1_verdictOf 40 = .ok (.getfield 20, 3) := by decide +kernel
theorem dX1_verdictOf_43 : decode cX1_verdictOf 43 = .ok (.iload_n 1, 1) := by decide +kernel
theorem dX1_verdictOf_44 : decode cX1_verdictOf 44 = .ok (.iaload, 1) := by decide +kernel
theorem dX1_verdictOf_45 : decode cX1_verdictOf 45 = .ok (.sipush 150, 3) := by decide +kernel
theorem dX1_verdictOf_48 : decode cX1_verdictOf 48 = .ok (.if_icmp .lt 5, 3) := by decide +kernel
theorem dX1_verdictOf_51 : decode cX1_verdictOf 51 = .ok (.iconst 5, 1) := by decide +kernel
theorem dX1_verdictOf_52 : decode cX1_verdictOf 52 = .ok (.ireturn, 1) := by decide +kernel
theorem dX1_verdictOf_53 : decode cX1_verdictOf 53 = .ok (.iload 4, 2) := by decide +kernel
theorem dX1_verdictOf_55 : decode cX1_verdictOf 55 = .ok (.iconst 3, 1) := by decide +kernel
theorem dX1_verdictOf_56 : decode cX1_verdictOf 56 = .ok (.if_icmp .lt 24, 3) := by decide +kernel
theorem dX1_verdictOf_59 : decode cX1_verdictOf 59 = .ok (.aload_n 0, 1) := by decide +kernel
theorem dX1_verdictOf_60 : decode cX1_verdictOf 60 = .ok (.getfield 20, 3) := by decide +kernel
theorem dX1_verdictOf_63 : decode cX1_verdictOf 63 = .ok (.iload_n 1, 1) := by decide +kernel
theorem dX1_verdictOf_64 : decode cX1_verdictOf 64 = .ok (.iaload, 1) := by decide +kernel
theorem dX1_verdictOf_65 : decode cX1_verdictOf 65 = .ok (.bipush 100, 2) := by decide +kernel
theorem dX1_verdictOf_67 : decode cX1_verdictOf 67 = .ok (.if_icmp .lt 8, 3) := by decide +kernel
theorem dX1_verdictOf_70 : decode cX1_verdictOf 70 = .ok (.bipush 8, 2) := by decide +kernel
theorem dX1_verdictOf_72 : decode cX1_verdictOf 72 = .ok (.goto 25, 3) := by decide +kernel
theorem dX1_verdictOf_75 : decode cX1_verdictOf 75 = .ok (.bipush 6, 2) := by decide +kernel
theorem dX1_verdictOf_77 : decode cX1_verdictOf 77 = .ok (.goto 20, 3) := by decide +kernel
theorem dX1_verdictOf_80 : decode cX1_verdictOf 80 = .ok (.aload_n 0, 1) := by decide +kernel
theorem dX1_verdictOf_81 : decode cX1_verdictOf 81 = .ok (.getfield 20, 3) := by decide +kernel
theorem dX1_verdictOf_84 : decode cX1_verdictOf 84 = .ok (.iload_n 1, 1) := by decide +kernel
theorem dX1_verdictOf_85 : decode cX1_verdictOf 85 = .ok (.iaload, 1) := by decide +kernel
theorem dX1_verdictOf_86 : decode cX1_verdictOf 86 = .ok (.bipush 100, 2) := by decide +kernel
theorem dX1_verdictOf_88 : decode cX1_verdictOf 88 = .ok (.if_icmp .lt 8, 3) := by decide +kernel
theorem dX1_verdictOf_91 : decode cX1_verdictOf 91 = .ok (.bipush 7, 2) := by decide +kernel
theorem dX1_verdictOf_93 : decode cX1_verdictOf 93 = .ok (.goto 4, 3) := by decide +kernel
theorem dX1_verdictOf_96 : decode cX1_verdictOf 96 = .ok (.iconst 0, 1) := by decide +kernel
theorem dX1_verdictOf_97 : decode cX1_verdictOf 97 = .ok (.ireturn, 1) := by decide +kernel
set_option maxRecDepth 20000 in
theorem ggX1_add_X1_verdictOf : GoodIn wsX1_add wsX1_verdictOf := goodIn_r _ [11, 5, 12, 13, 14, 10, 15, 16, 17, 18, 19, 4, 1, 20, 21, 22, 23, 24, 25, 26, 27, 28, 29, 30, 31, 32, 33, 34, 35, 36, 37, 38] (by decide +kernel) (by decide +kernel)
set_option maxRecDepth 20000 in
theorem gX1_add_X1_verdictOf : GoodIn wsX1_add (wsV RX1 56 RX1 yX1_verdictOf wsX1_verdictOf) := goodIn_app (goodIn_of _ (by decide +kernel)) ggX1_add_X1_verdictOf
theorem dX1_add_0 : decode cX1_add 0 = .ok (.iconst 0, 1) := by decide +kernel
theorem dX1_add_1 : decode cX1_add 1 = .ok (.istore 5, 2) := by decide +kernel
theorem dX1_add_3 : decode cX1_add 3 = .ok (.iload 5, 2) := by decide +kernel
theorem dX1_add_5 : decode cX1_add 5 = .ok (.bipush 64, 2) := by decide +kernel
theorem dX1_add_7 : decode cX1_add 7 = .ok (.if_icmp .ge 31, 3) := by decide +kernel
theorem dX1_add_10 : decode cX1_add 10 = .ok (.aload_n 0, 1) := by decide +kernel
theorem dX1_add_11 : decode cX1_add 11 = .ok (.getfield 14, 3) := by decide +kernel
theorem dX1_add_14 : decode cX1_add 14 = .ok (.bipush 64, 2) := by decide +kernel
theorem dX1_add_16 : decode cX1_add 16 = .ok (.aload_n 0, 1) := by decide +kernel
theorem dX1_add_17 : decode cX1_add 17 = .ok (.getfield 53, 3) := by decide +kernel
theorem dX1_add_20 : decode cX1_add 20 = .ok (.imul, 1) := by decide +kernel
theorem dX1_add_21 : decode cX1_add 21 = .ok (.iload 5, 2) := by decide +kernel
theorem dX1_add_23 : decode cX1_add 23 = .ok (.iadd, 1) := by decide +kernel
theorem dX1_add_24 : decode cX1_add 24 = .ok (.aload_n 0, 1) := by decide +kernel
theorem dX1_add_25 : decode cX1_add 25 = .ok (.getfield 7, 3) := by decide +kernel
theorem dX1_add_28 : decode cX1_add 28 = .ok (.iload 5, 2) := by decide +kernel
theorem dX1_add_30 : decode cX1_add 30 = .ok (.iaload, 1) := by decide +kernel
theorem dX1_add_31 : decode cX1_add 31 = .ok (.iastore, 1) := by decide +kernel
theorem dX1_add_32 : decode cX1_add 32 = .ok (.iinc 5 1, 3) := by decide +kernel
theorem dX1_add_35 : decode cX1_add 35 = .ok (.goto (-32), 3) := by decide +kernel
theorem dX1_add_38 : decode cX1_add 38 = .ok (.aload_n 0, 1) := by decide +kernel
theorem dX1_add_39 : decode cX1_add 39 = .ok (.getfield 17, 3) := by decide +kernel
theorem dX1_add_42 : decode cX1_add 42 = .ok (.aload_n 0, 1) := by decide +kernel
theorem dX1_add_43 : decode cX1_add 43 = .ok (.getfield 53, 3) := by decide +kernel
theorem dX1_add_46 : decode cX1_add 46 = .ok (.iload_n 1, 1) := by decide +kernel
theorem dX1_add_47 : decode cX1_add 47 = .ok (.iastore, 1) := by decide +kernel
theorem dX1_add_48 : decode cX1_add 48 = .ok (.aload_n 0, 1) := by decide +kernel
theorem dX1_add_49 : decode cX1_add 49 = .ok (.getfield 20, 3) := by decide +kernel
theorem dX1_add_52 : decode cX1_add 52 = .ok (.aload_n 0, 1) := by decide +kernel
theorem dX1_add_53 : decode cX1_add 53 = .ok (.getfield 53, 3) := by decide +kernel
theorem dX1_add_56 : decode cX1_add 56 = .ok (.iload 4, 2) := by decide +kernel
theorem dX1_add_58 : decode cX1_add 58 = .ok (.iastore, 1) := by decide +kernel
theorem dX1_add_59 : decode cX1_add 59 = .ok (.aload_n 0, 1) := by decide +kernel
theorem dX1_add_60 : decode cX1_add 60 = .ok (.dup, 1) := by decide +kernel
theorem dX1_add_61 : decode cX1_add 61 = .ok (.getfield 53, 3) := by decide +kernel
theorem dX1_add_64 : decode cX1_add 64 = .ok (.iconst 1, 1) := by decide +kernel
theorem dX1_add_65 : decode cX1_add 65 = .ok (.iadd, 1) := by decide +kernel
theorem dX1_add_66 : decode cX1_add 66 = .ok (.putfield 53, 3) := by decide +kernel
theorem dX1_add_69 : decode cX1_add 69 = .ok (.aload_n 0, 1) := by decide +kernel
theorem dX1_add_70 : decode cX1_add 70 = .ok (.getfield 23, 3) := by decide +kernel
theorem dX1_add_73 : decode cX1_add 73 = .ok (.aload_n 0, 1) := by decide +kernel
theorem dX1_add_74 : decode cX1_add 74 = .ok (.getfield 53, 3) := by decide +kernel
theorem dX1_add_77 : decode cX1_add 77 = .ok (.iconst 1, 1) := by decide +kernel
theorem dX1_add_78 : decode cX1_add 78 = .ok (.isub, 1) := by decide +kernel
theorem dX1_add_79 : decode cX1_add 79 = .ok (.aload_n 0, 1) := by decide +kernel
theorem dX1_add_80 : decode cX1_add 80 = .ok (.aload_n 0, 1) := by decide +kernel
theorem dX1_add_81 : decode cX1_add 81 = .ok (.getfield 53, 3) := by decide +kernel
theorem dX1_add_84 : decode cX1_add 84 = .ok (.iconst 1, 1) := by decide +kernel
theorem dX1_add_85 : decode cX1_add 85 = .ok (.isub, 1) := by decide +kernel
theorem dX1_add_86 : decode cX1_add 86 = .ok (.iload_n 2, 1) := by decide +kernel
theorem dX1_add_87 : decode cX1_add 87 = .ok (.iload_n 3, 1) := by decide +kernel
theorem dX1_add_88 : decode cX1_add 88 = .ok (.invokevirtual 56, 3) := by decide +kernel
theorem dX1_add_91 : decode cX1_add 91 = .ok (.iastore, 1) := by decide +kernel
theorem dX1_add_92 : decode cX1_add 92 = .ok (.aload_n 0, 1) := by decide +kernel
theorem dX1_add_93 : decode cX1_add 93 = .ok (.getfield 23, 3) := by decide +kernel
theorem dX1_add_96 : decode cX1_add 96 = .ok (.aload_n 0, 1) := by decide +kernel
theorem dX1_add_97 : decode cX1_add 97 = .ok (.getfield 53, 3) := by decide +kernel
theorem dX1_add_100 : decode cX1_add 100 = .ok (.iconst 1, 1) := by decide +kernel
theorem dX1_add_101 : decode cX1_add 101 = .ok (.isub, 1) := by decide +kernel
theorem dX1_add_102 : decode cX1_add 102 = .ok (.iaload, 1) := by decide +kernel
theorem dX1_add_103 : decode cX1_add 103 = .ok (.ireturn, 1) := by decide +kernel
set_option maxRecDepth 20000 in
theorem ggX1_begin_X1_isState : GoodIn wsX1_begin wsX1_isState := goodIn_r _ [6] (by decide +kernel) (by decide +kernel)
set_option maxRecDepth 20000 in
theorem gX1_begin_X1_isState : GoodIn wsX1_begin (va_wsS RX1 60 yX1_isState wsX1_isState) := goodIn_app (goodIn_of _ (by decide +kernel)) ggX1_begin_X1_isState
set_option maxRecDepth 20000 in
theorem ggX1_begin_X1_add : GoodIn wsX1_begin wsX1_add := goodIn_r _ [10, 11, 2, 12, 13, 14, 15, 16, 17, 18, 5, 19, 20, 21, 22, 23, 24, 25, 26, 27, 28, 29, 30, 31, 32, 33, 34, 35, 36, 37, 38, 39, 40, 41, 42, 43, 44, 45, 46] (by decide +kernel) (by decide +kernel)
set_option maxRecDepth 20000 in
theorem gX1_begin_X1_add : GoodIn wsX1_begin (wsV RX1 63 RX1 yX1_add wsX1_add) := goodIn_app (goodIn_of _ (by decide +kernel)) ggX1_begin_X1_add
theorem dX1_begin_0 : decode cX1_begin 0 = .ok (.aload_n 0, 1) := by decide +kernel
theorem dX1_begin_1 : decode cX1_begin 1 = .ok (.iload_n 1, 1) := by decide +kernel
theorem dX1_begin_2 : decode cX1_begin 2 = .ok (.invokestatic 60, 3) := by decide +kernel
theorem dX1_begin_5 : decode cX1_begin 5 = .ok (.ifCond .eq 31, 3) := by decide +kernel
theorem dX1_begin_8 : decode cX1_begin 8 = .ok (.iload_n 2, 1) := by decide +kernel
theorem dX1_begin_9 : decode cX1_begin 9 = .ok (.ifCond .lt 27, 3) := by decide +kernel
theorem dX1_begin_12 : decode cX1_begin 12 = .ok (.iload_n 2, 1) := by decide +kernel
theorem dX1_begin_13 : decode cX1_begin 13 = .ok (.sipush 300, 3) := by decide +kernel
theorem dX1_begin_16 : decode cX1_begin 16 = .ok (.if_icmp .gt 20, 3) := by decide +kernel
theorem dX1_begin_19 : decode cX1_begin 19 = .ok (.iload 4, 2) := by decide +kernel
theorem dX1_begin_21 : decode cX1_begin 21 = .ok (.ifCond .lt 15, 3) := by decide +kernel
theorem dX1_begin_24 : decode cX1_begin 24 = .ok (.iload 4, 2) := by decide +kernel
theorem dX1_begin_26 : decode cX1_begin 26 = .ok (.sipush 1000, 3) := by decide +kernel
theorem dX1_begin_29 : decode cX1_begin 29 = .ok (.if_icmp .gt 7, 3) := by decide +kernel
theorem dX1_begin_32 : decode cX1_begin 32 = .ok (.iconst 0, 1) := by decide +kernel
theorem dX1_begin_33 : decode cX1_begin 33 = .ok (.goto 4, 3) := by decide +kernel
theorem dX1_begin_36 : decode cX1_begin 36 = .ok (.iconst 1, 1) := by decide +kernel
theorem dX1_begin_37 : decode cX1_begin 37 = .ok (.putfield 26, 3) := by decide +kernel
theorem dX1_begin_40 : decode cX1_begin 40 = .ok (.aload_n 0, 1) := by decide +kernel
theorem dX1_begin_41 : decode cX1_begin 41 = .ok (.getfield 26, 3) := by decide +kernel
theorem dX1_begin_44 : decode cX1_begin 44 = .ok (.ifCond .le 5, 3) := by decide +kernel
theorem dX1_begin_47 : decode cX1_begin 47 = .ok (.iconst 0, 1) := by decide +kernel
theorem dX1_begin_48 : decode cX1_begin 48 = .ok (.ireturn, 1) := by decide +kernel
theorem dX1_begin_49 : decode cX1_begin 49 = .ok (.aload_n 0, 1) := by decide +kernel
theorem dX1_begin_50 : decode cX1_begin 50 = .ok (.iconst 0, 1) := by decide +kernel
theorem dX1_begin_51 : decode cX1_begin 51 = .ok (.putfield 53, 3) := by decide +kernel
theorem dX1_begin_54 : decode cX1_begin 54 = .ok (.aload_n 0, 1) := by decide +kernel
theorem dX1_begin_55 : decode cX1_begin 55 = .ok (.iload_n 1, 1) := by decide +kernel
theorem dX1_begin_56 : decode cX1_begin 56 = .ok (.iload_n 2, 1) := by decide +kernel
theorem dX1_begin_57 : decode cX1_begin 57 = .ok (.iload_n 3, 1) := by decide +kernel
theorem dX1_begin_58 : decode cX1_begin 58 = .ok (.iload 4, 2) := by decide +kernel
theorem dX1_begin_60 : decode cX1_begin 60 = .ok (.invokevirtual 63, 3) := by decide +kernel
theorem dX1_begin_63 : decode cX1_begin 63 = .ok (.ireturn, 1) := by decide +kernel
set_option maxRecDepth 20000 in
theorem ggX1_next_X1_isState : GoodIn wsX1_next wsX1_isState := goodIn_r _ [8] (by decide +kernel) (by decide +kernel)
set_option maxRecDepth 20000 in
theorem gX1_next_X1_isState : GoodIn wsX1_next (va_wsS RX1 60 yX1_isState wsX1_isState) := goodIn_app (goodIn_of _ (by decide +kernel)) ggX1_next_X1_isState
set_option maxRecDepth 20000 in
theorem ggX1_next_X1_add : GoodIn wsX1_next wsX1_add := goodIn_r _ [12, 13, 1, 14, 15, 4, 2, 16, 17, 18, 7, 19, 20, 21, 22, 23, 24, 25, 26, 27, 28, 29, 30, 31, 32, 33, 34, 35, 36, 37, 38, 39, 40, 41, 42, 43, 44, 45, 46] (by decide +kernel) (by decide +kernel)
set_option maxRecDepth 20000 in
theorem gX1_next_X1_add : GoodIn wsX1_next (wsV RX1 63 RX1 yX1_add wsX1_add) := goodIn_app (goodIn_of _ (by decide +kernel)) ggX1_next_X1_add
theorem dX1_next_0 : decode cX1_next 0 = .ok (.aload_n 0, 1) := by decide +kernel
theorem dX1_next_1 : decode cX1_next 1 = .ok (.getfield 53, 3) := by decide +kernel
theorem dX1_next_4 : decode cX1_next 4 = .ok (.ifCond .eq 13, 3) := by decide +kernel
theorem dX1_next_7 : decode cX1_next 7 = .ok (.aload_n 0, 1) := by decide +kernel
theorem dX1_next_8 : decode cX1_next 8 = .ok (.getfield 53, 3) := by decide +kernel
theorem dX1_next_11 : decode cX1_next 11 = .ok (.sipush 640, 3) := by decide +kernel
theorem dX1_next_14 : decode cX1_next 14 = .ok (.if_icmp .ne 7, 3) := by decide +kernel
theorem dX1_next_17 : decode cX1_next 17 = .ok (.iconst 1, 1) := by decide +kernel
theorem dX1_next_18 : decode cX1_next 18 = .ok (.goto 4, 3) := by decide +kernel
theorem dX1_next_21 : decode cX1_next 21 = .ok (.iconst 0, 1) := by decide +kernel
theorem dX1_next_22 : decode cX1_next 22 = .ok (.istore 5, 2) := by decide +kernel
theorem dX1_next_24 : decode cX1_next 24 = .ok (.iload 5, 2) := by decide +kernel
theorem dX1_next_26 : decode cX1_next 26 = .ok (.ifCond .ne 33, 3) := by decide +kernel
theorem dX1_next_29 : decode cX1_next 29 = .ok (.aload_n 0, 1) := by decide +kernel
theorem dX1_next_30 : decode cX1_next 30 = .ok (.getfield 23, 3) := by decide +kernel
theorem dX1_next_33 : decode cX1_next 33 = .ok (.aload_n 0, 1) := by decide +kernel
theorem dX1_next_34 : decode cX1_next 34 = .ok (.getfield 53, 3) := by decide +kernel
theorem dX1_next_37 : decode cX1_next 37 = .ok (.iconst 1, 1) := by decide +kernel
theorem dX1_next_38 : decode cX1_next 38 = .ok (.isub, 1) := by decide +kernel
theorem dX1_next_39 : decode cX1_next 39 = .ok (.iaload, 1) := by decide +kernel
theorem dX1_next_40 : decode cX1_next 40 = .ok (.ifCond .le 23, 3) := by decide +kernel
theorem dX1_next_43 : decode cX1_next 43 = .ok (.aload_n 0, 1) := by decide +kernel
theorem dX1_next_44 : decode cX1_next 44 = .ok (.getfield 23, 3) := by decide +kernel
theorem dX1_next_47 : decode cX1_next 47 = .ok (.aload_n 0, 1) := by decide +kernel
theorem dX1_next_48 : decode cX1_next 48 = .ok (.getfield 53, 3) := by decide +kernel
theorem dX1_next_51 : decode cX1_next 51 = .ok (.iconst 1, 1) := by decide +kernel
theorem dX1_next_52 : decode cX1_next 52 = .ok (.isub, 1) := by decide +kernel
theorem dX1_next_53 : decode cX1_next 53 = .ok (.iaload, 1) := by decide +kernel
theorem dX1_next_54 : decode cX1_next 54 = .ok (.bipush 6, 2) := by decide +kernel
theorem dX1_next_56 : decode cX1_next 56 = .ok (.if_icmp .ge 7, 3) := by decide +kernel
theorem dX1_next_59 : decode cX1_next 59 = .ok (.iconst 1, 1) := by decide +kernel
theorem dX1_next_60 : decode cX1_next 60 = .ok (.goto 4, 3) := by decide +kernel
theorem dX1_next_63 : decode cX1_next 63 = .ok (.iconst 0, 1) := by decide +kernel
theorem dX1_next_64 : decode cX1_next 64 = .ok (.istore 5, 2) := by decide +kernel
theorem dX1_next_66 : decode cX1_next 66 = .ok (.aload_n 0, 1) := by decide +kernel
theorem dX1_next_67 : decode cX1_next 67 = .ok (.iload 5, 2) := by decide +kernel
theorem dX1_next_69 : decode cX1_next 69 = .ok (.ifCond .eq 7, 3) := by decide +kernel
theorem dX1_next_72 : decode cX1_next 72 = .ok (.iconst 1, 1) := by decide +kernel
theorem dX1_next_73 : decode cX1_next 73 = .ok (.goto 26, 3) := by decide +kernel
theorem dX1_next_76 : decode cX1_next 76 = .ok (.iload_n 1, 1) := by decide +kernel
theorem dX1_next_77 : decode cX1_next 77 = .ok (.invokestatic 60, 3) := by decide +kernel
theorem dX1_next_80 : decode cX1_next 80 = .ok (.ifCond .eq 18, 3) := by decide +kernel
theorem dX1_next_83 : decode cX1_next 83 = .ok (.iload_n 2, 1) := by decide +kernel
theorem dX1_next_84 : decode cX1_next 84 = .ok (.ifCond .lt 14, 3) := by decide +kernel
theorem dX1_next_87 : decode cX1_next 87 = .ok (.iload_n 2, 1) := by decide +kernel
theorem dX1_next_88 : decode cX1_next 88 = .ok (.sipush 300, 3) := by decide +kernel
theorem dX1_next_91 : decode cX1_next 91 = .ok (.if_icmp .gt 7, 3) := by decide +kernel
theorem dX1_next_94 : decode cX1_next 94 = .ok (.iconst 0, 1) := by decide +kernel
theorem dX1_next_95 : decode cX1_next 95 = .ok (.goto 4, 3) := by decide +kernel
theorem dX1_next_98 : decode cX1_next 98 = .ok (.iconst 2, 1) := by decide +kernel
theorem dX1_next_99 : decode cX1_next 99 = .ok (.putfield 26, 3) := by decide +kernel
theorem dX1_next_102 : decode cX1_next 102 = .ok (.aload_n 0, 1) := by decide +kernel
theorem dX1_next_103 : decode cX1_next 103 = .ok (.getfield 26, 3) := by decide +kernel
theorem dX1_next_106 : decode cX1_next 106 = .ok (.ifCond .le 5, 3) := by decide +kernel
theorem dX1_next_109 : decode cX1_next 109 = .ok (.iconst 0, 1) := by decide +kernel
theorem dX1_next_110 : decode cX1_next 110 = .ok (.ireturn, 1) := by decide +kernel
theorem dX1_next_111 : decode cX1_next 111 = .ok (.aload_n 0, 1) := by decide +kernel
theorem dX1_next_112 : decode cX1_next 112 = .ok (.iload_n 1, 1) := by decide +kernel
theorem dX1_next_113 : decode cX1_next 113 = .ok (.iload_n 2, 1) := by decide +kernel
theorem dX1_next_114 : decode cX1_next 114 = .ok (.iload_n 3, 1) := by decide +kernel
theorem dX1_next_115 : decode cX1_next 115 = .ok (.iload 4, 2) := by decide +kernel
theorem dX1_next_117 : decode cX1_next 117 = .ok (.ifCond .eq 7, 3) := by decide +kernel
theorem dX1_next_120 : decode cX1_next 120 = .ok (.iconst 0, 1) := by decide +kernel
theorem dX1_next_121 : decode cX1_next 121 = .ok (.goto 16, 3) := by decide +kernel
theorem dX1_next_124 : decode cX1_next 124 = .ok (.aload_n 0, 1) := by decide +kernel
theorem dX1_next_125 : decode cX1_next 125 = .ok (.getfield 20, 3) := by decide +kernel
theorem dX1_next_128 : decode cX1_next 128 = .ok (.aload_n 0, 1) := by decide +kernel
theorem dX1_next_129 : decode cX1_next 129 = .ok (.getfield 53, 3) := by decide +kernel
theorem dX1_next_132 : decode cX1_next 132 = .ok (.iconst 1, 1) := by decide +kernel
theorem dX1_next_133 : decode cX1_next 133 = .ok (.isub, 1) := by decide +kernel
theorem dX1_next_134 : decode cX1_next 134 = .ok (.iaload, 1) := by decide +kernel
theorem dX1_next_135 : decode cX1_next 135 = .ok (.iconst 1, 1) := by decide +kernel
theorem dX1_next_136 : decode cX1_next 136 = .ok (.iadd, 1) := by decide +kernel
theorem dX1_next_137 : decode cX1_next 137 = .ok (.invokevirtual 63, 3) := by decide +kernel
theorem dX1_next_140 : decode cX1_next 140 = .ok (.ireturn, 1) := by decide +kernel
theorem dX1_back_0 : decode cX1_back 0 = .ok (.aload_n 0, 1) := by decide +kernel
theorem dX1_back_1 : decode cX1_back 1 = .ok (.iconst 0, 1) := by decide +kernel
theorem dX1_back_2 : decode cX1_back 2 = .ok (.putfield 26, 3) := by decide +kernel
theorem dX1_back_5 : decode cX1_back 5 = .ok (.aload_n 0, 1) := by decide +kernel
theorem dX1_back_6 : decode cX1_back 6 = .ok (.getfield 53, 3) := by decide +kernel
theorem dX1_back_9 : decode cX1_back 9 = .ok (.ifCond .ne 5, 3) := by decide +kernel
theorem dX1_back_12 : decode cX1_back 12 = .ok (.iconst 0, 1) := by decide +kernel
theorem dX1_back_13 : decode cX1_back 13 = .ok (.ireturn, 1) := by decide +kernel
theorem dX1_back_14 : decode cX1_back 14 = .ok (.aload_n 0, 1) := by decide +kernel
theorem dX1_back_15 : decode cX1_back 15 = .ok (.dup, 1) := by decide +kernel
theorem dX1_back_16 : decode cX1_back 16 = .ok (.getfield 53, 3) := by decide +kernel
theorem dX1_back_19 : decode cX1_back 19 = .ok (.iconst 1, 1) := by decide +kernel
theorem dX1_back_20 : decode cX1_back 20 = .ok (.isub, 1) := by decide +kernel
theorem dX1_back_21 : decode cX1_back 21 = .ok (.putfield 53, 3) := by decide +kernel
theorem dX1_back_24 : decode cX1_back 24 = .ok (.iconst 1, 1) := by decide +kernel
theorem dX1_back_25 : decode cX1_back 25 = .ok (.ireturn, 1) := by decide +kernel
theorem dX1_verdict_0 : decode cX1_verdict 0 = .ok (.aload_n 0, 1) := by decide +kernel
theorem dX1_verdict_1 : decode cX1_verdict 1 = .ok (.iconst 0, 1) := by decide +kernel
theorem dX1_verdict_2 : decode cX1_verdict 2 = .ok (.putfield 26, 3) := by decide +kernel
theorem dX1_verdict_5 : decode cX1_verdict 5 = .ok (.aload_n 0, 1) := by decide +kernel
theorem dX1_verdict_6 : decode cX1_verdict 6 = .ok (.getfield 53, 3) := by decide +kernel
theorem dX1_verdict_9 : decode cX1_verdict 9 = .ok (.ifCond .ne 7, 3) := by decide +kernel
theorem dX1_verdict_12 : decode cX1_verdict 12 = .ok (.iconst (-1), 1) := by decide +kernel
theorem dX1_verdict_13 : decode cX1_verdict 13 = .ok (.goto 14, 3) := by decide +kernel
theorem dX1_verdict_16 : decode cX1_verdict 16 = .ok (.aload_n 0, 1) := by decide +kernel
theorem dX1_verdict_17 : decode cX1_verdict 17 = .ok (.getfield 23, 3) := by decide +kernel
theorem dX1_verdict_20 : decode cX1_verdict 20 = .ok (.aload_n 0, 1) := by decide +kernel
theorem dX1_verdict_21 : decode cX1_verdict 21 = .ok (.getfield 53, 3) := by decide +kernel
theorem dX1_verdict_24 : decode cX1_verdict 24 = .ok (.iconst 1, 1) := by decide +kernel
theorem dX1_verdict_25 : decode cX1_verdict 25 = .ok (.isub, 1) := by decide +kernel
theorem dX1_verdict_26 : decode cX1_verdict 26 = .ok (.iaload, 1) := by decide +kernel
theorem dX1_verdict_27 : decode cX1_verdict 27 = .ok (.ireturn, 1) := by decide +kernel
theorem dX1_isIn_0 : decode cX1_isIn 0 = .ok (.iload_n 1, 1) := by decide +kernel
theorem dX1_isIn_1 : decode cX1_isIn 1 = .ok (.ifCond .lt 15, 3) := by decide +kernel
theorem dX1_isIn_4 : decode cX1_isIn 4 = .ok (.iload_n 1, 1) := by decide +kernel
theorem dX1_isIn_5 : decode cX1_isIn 5 = .ok (.aload_n 0, 1) := by decide +kernel
theorem dX1_isIn_6 : decode cX1_isIn 6 = .ok (.getfield 53, 3) := by decide +kernel
theorem dX1_isIn_9 : decode cX1_isIn 9 = .ok (.if_icmp .ge 7, 3) := by decide +kernel
theorem dX1_isIn_12 : decode cX1_isIn 12 = .ok (.iconst 1, 1) := by decide +kernel
theorem dX1_isIn_13 : decode cX1_isIn 13 = .ok (.goto 4, 3) := by decide +kernel
theorem dX1_isIn_16 : decode cX1_isIn 16 = .ok (.iconst 0, 1) := by decide +kernel
theorem dX1_isIn_17 : decode cX1_isIn 17 = .ok (.ireturn, 1) := by decide +kernel
set_option maxRecDepth 20000 in
theorem ggX1_of_X1_isIn : GoodIn wsX1_of wsX1_isIn := goodIn_r _ [9, 10, 32, 33, 34, 35, 36, 37, 38] (by decide +kernel) (by decide +kernel)
set_option maxRecDepth 20000 in
theorem gX1_of_X1_isIn : GoodIn wsX1_of (wsV RX1 67 RX1 yX1_isIn wsX1_isIn) := goodIn_app (goodIn_of _ (by decide +kernel)) ggX1_of_X1_isIn
set_option maxRecDepth 20000 in
theorem ggX1_of_X1_isSame : GoodIn wsX1_of wsX1_isSame := goodIn_r _ [14, 4, 15, 32, 33, 34, 35, 36, 37, 38] (by decide +kernel) (by decide +kernel)
set_option maxRecDepth 20000 in
theorem gX1_of_X1_isSame : GoodIn wsX1_of (wsV RX1 34 RX1 yX1_isSame wsX1_isSame) := goodIn_app (goodIn_of _ (by decide +kernel)) ggX1_of_X1_isSame
set_option maxRecDepth 20000 in
theorem ggX1_of_X1_countOf : GoodIn wsX1_of wsX1_countOf := goodIn_r _ [19, 11, 12, 13, 8, 14, 4, 15, 32, 33, 34, 35, 36, 37, 38] (by decide +kernel) (by decide +kernel)
set_option maxRecDepth 20000 in
theorem gX1_of_X1_countOf : GoodIn wsX1_of (wsV RX1 45 RX1 yX1_countOf wsX1_countOf) := goodIn_app (goodIn_of _ (by decide +kernel)) ggX1_of_X1_countOf
set_option maxRecDepth 20000 in
theorem ggX1_of_X1_isDead : GoodIn wsX1_of wsX1_isDead := goodIn_r _ [23, 24, 25, 26, 8, 27, 15, 28, 29, 30, 31, 32, 33, 34, 35, 36, 37, 38] (by decide +kernel) (by decide +kernel)
set_option maxRecDepth 20000 in
theorem gX1_of_X1_isDead : GoodIn wsX1_of (wsV RX1 49 RX1 yX1_isDead wsX1_isDead) := goodIn_app (goodIn_of _ (by decide +kernel)) ggX1_of_X1_isDead
set_option maxRecDepth 20000 in
theorem ggX1_of_X1_howMany : GoodIn wsX1_of wsX1_howMany := goodIn_r _ [27, 15, 32, 33, 34, 35, 36, 37, 38] (by decide +kernel) (by decide +kernel)
set_option maxRecDepth 20000 in
theorem gX1_of_X1_howMany : GoodIn wsX1_of (wsV RX1 38 RX1 yX1_howMany wsX1_howMany) := goodIn_app (goodIn_of _ (by decide +kernel)) ggX1_of_X1_howMany
theorem dX1_of_0 : decode cX1_of 0 = .ok (.aload_n 0, 1) := by decide +kernel
theorem dX1_of_1 : decode cX1_of 1 = .ok (.aload_n 0, 1) := by decide +kernel
theorem dX1_of_2 : decode cX1_of 2 = .ok (.iload_n 1, 1) := by decide +kernel
theorem dX1_of_3 : decode cX1_of 3 = .ok (.invokevirtual 67, 3) := by decide +kernel
theorem dX1_of_6 : decode cX1_of 6 = .ok (.ifCond .eq 17, 3) := by decide +kernel
theorem dX1_of_9 : decode cX1_of 9 = .ok (.iload_n 2, 1) := by decide +kernel
theorem dX1_of_10 : decode cX1_of 10 = .ok (.ifCond .lt 13, 3) := by decide +kernel
theorem dX1_of_13 : decode cX1_of 13 = .ok (.iload_n 2, 1) := by decide +kernel
theorem dX1_of_14 : decode cX1_of 14 = .ok (.bipush 7, 2) := by decide +kernel
theorem dX1_of_16 : decode cX1_of 16 = .ok (.if_icmp .gt 7, 3) := by decide +kernel
theorem dX1_of_19 : decode cX1_of 19 = .ok (.iconst 0, 1) := by decide +kernel
theorem dX1_of_20 : decode cX1_of 20 = .ok (.goto 4, 3) := by decide +kernel
theorem dX1_of_23 : decode cX1_of 23 = .ok (.iconst 1, 1) := by decide +kernel
theorem dX1_of_24 : decode cX1_of 24 = .ok (.putfield 26, 3) := by decide +kernel
theorem dX1_of_27 : decode cX1_of 27 = .ok (.aload_n 0, 1) := by decide +kernel
theorem dX1_of_28 : decode cX1_of 28 = .ok (.getfield 26, 3) := by decide +kernel
theorem dX1_of_31 : decode cX1_of 31 = .ok (.ifCond .le 5, 3) := by decide +kernel
theorem dX1_of_34 : decode cX1_of 34 = .ok (.iconst 0, 1) := by decide +kernel
theorem dX1_of_35 : decode cX1_of 35 = .ok (.ireturn, 1) := by decide +kernel
theorem dX1_of_36 : decode cX1_of 36 = .ok (.iload_n 1, 1) := by decide +kernel
theorem dX1_of_37 : decode cX1_of 37 = .ok (.istore_n 3, 1) := by decide +kernel
theorem dX1_of_38 : decode cX1_of 38 = .ok (.iconst (-1), 1) := by decide +kernel
theorem dX1_of_39 : decode cX1_of 39 = .ok (.istore 4, 2) := by decide +kernel
theorem dX1_of_41 : decode cX1_of 41 = .ok (.iconst 0, 1) := by decide +kernel
theorem dX1_of_42 : decode cX1_of 42 = .ok (.istore 5, 2) := by decide +kernel
theorem dX1_of_44 : decode cX1_of 44 = .ok (.iload 5, 2) := by decide +kernel
theorem dX1_of_46 : decode cX1_of 46 = .ok (.iload_n 1, 1) := by decide +kernel
theorem dX1_of_47 : decode cX1_of 47 = .ok (.if_icmp .ge 50, 3) := by decide +kernel
theorem dX1_of_50 : decode cX1_of 50 = .ok (.aload_n 0, 1) := by decide +kernel
theorem dX1_of_51 : decode cX1_of 51 = .ok (.iload_n 1, 1) := by decide +kernel
theorem dX1_of_52 : decode cX1_of 52 = .ok (.iload 5, 2) := by decide +kernel
theorem dX1_of_54 : decode cX1_of 54 = .ok (.invokevirtual 34, 3) := by decide +kernel
theorem dX1_of_57 : decode cX1_of 57 = .ok (.istore 6, 2) := by decide +kernel
theorem dX1_of_59 : decode cX1_of 59 = .ok (.iload 6, 2) := by decide +kernel
theorem dX1_of_61 : decode cX1_of 61 = .ok (.ifCond .eq 14, 3) := by decide +kernel
theorem dX1_of_64 : decode cX1_of 64 = .ok (.iload 5, 2) := by decide +kernel
theorem dX1_of_66 : decode cX1_of 66 = .ok (.iload_n 3, 1) := by decide +kernel
theorem dX1_of_67 : decode cX1_of 67 = .ok (.if_icmp .ge 8, 3) := by decide +kernel
theorem dX1_of_70 : decode cX1_of 70 = .ok (.iload 5, 2) := by decide +kernel
theorem dX1_of_72 : decode cX1_of 72 = .ok (.goto 4, 3) := by decide +kernel
theorem dX1_of_75 : decode cX1_of 75 = .ok (.iload_n 3, 1) := by decide +kernel
theorem dX1_of_76 : decode cX1_of 76 = .ok (.istore_n 3, 1) := by decide +kernel
theorem dX1_of_77 : decode cX1_of 77 = .ok (.iload 6, 2) := by decide +kernel
theorem dX1_of_79 : decode cX1_of 79 = .ok (.ifCond .eq 8, 3) := by decide +kernel
theorem dX1_of_82 : decode cX1_of 82 = .ok (.iload 5, 2) := by decide +kernel
theorem dX1_of_84 : decode cX1_of 84 = .ok (.goto 5, 3) := by decide +kernel
theorem dX1_of_87 : decode cX1_of 87 = .ok (.iload 4, 2) := by decide +kernel
theorem dX1_of_89 : decode cX1_of 89 = .ok (.istore 4, 2) := by decide +kernel
theorem dX1_of_91 : decode cX1_of 91 = .ok (.iinc 5 1, 3) := by decide +kernel
theorem dX1_of_94 : decode cX1_of 94 = .ok (.goto (-50), 3) := by decide +kernel
theorem dX1_of_97 : decode cX1_of 97 = .ok (.iload_n 2, 1) := by decide +kernel
theorem dX1_of_98 : decode cX1_of 98 = .ok (.tableswitch 88 0 6 #[42, 48, 55, 62, 64, 67, 74], 42) := by decide +kernel
theorem dX1_of_140 : decode cX1_of 140 = .ok (.aload_n 0, 1) := by decide +kernel
theorem dX1_of_141 : decode cX1_of 141 = .ok (.iload_n 1, 1) := by decide +kernel
theorem dX1_of_142 : decode cX1_of 142 = .ok (.invokevirtual 45, 3) := by decide +kernel
theorem dX1_of_145 : decode cX1_of 145 = .ok (.ireturn, 1) := by decide +kernel
theorem dX1_of_146 : decode cX1_of 146 = .ok (.aload_n 0, 1) := by decide +kernel
theorem dX1_of_147 : decode cX1_of 147 = .ok (.getfield 20, 3) := by decide +kernel
theorem dX1_of_150 : decode cX1_of 150 = .ok (.iload_n 1, 1) := by decide +kernel
theorem dX1_of_151 : decode cX1_of 151 = .ok (.iaload, 1) := by decide +kernel
theorem dX1_of_152 : decode cX1_of 152 = .ok (.ireturn, 1) := by decide +kernel
theorem dX1_of_153 : decode cX1_of 153 = .ok (.aload_n 0, 1) := by decide +kernel
theorem dX1_of_154 : decode cX1_of 154 = .ok (.getfield 23, 3) := by decide +kernel
theorem dX1_of_157 : decode cX1_of 157 = .ok (.iload_n 1, 1) := by decide +kernel
theorem dX1_of_158 : decode cX1_of 158 = .ok (.iaload, 1) := by decide +kernel
theorem dX1_of_159 : decode cX1_of 159 = .ok (.ireturn, 1) := by decide +kernel
theorem dX1_of_160 : decode cX1_of 160 = .ok (.iload_n 3, 1) := by decide +kernel
theorem dX1_of_161 : decode cX1_of 161 = .ok (.ireturn, 1) := by decide +kernel
theorem dX1_of_162 : decode cX1_of 162 = .ok (.iload 4, 2) := by decide +kernel
theorem dX1_of_164 : decode cX1_of 164 = .ok (.ireturn, 1) := by decide +kernel
theorem dX1_of_165 : decode cX1_of 165 = .ok (.aload_n 0, 1) := by decide +kernel
theorem dX1_of_166 : decode cX1_of 166 = .ok (.getfield 17, 3) := by decide +kernel
theorem dX1_of_169 : decode cX1_of 169 = .ok (.iload_n 1, 1) := by decide +kernel
theorem dX1_of_170 : decode cX1_of 170 = .ok (.iaload, 1) := by decide +kernel
theorem dX1_of_171 : decode cX1_of 171 = .ok (.ireturn, 1) := by decide +kernel
theorem dX1_of_172 : decode cX1_of 172 = .ok (.aload_n 0, 1) := by decide +kernel
theorem dX1_of_173 : decode cX1_of 173 = .ok (.iload_n 1, 1) := by decide +kernel
theorem dX1_of_174 : decode cX1_of 174 = .ok (.invokevirtual 49, 3) := by decide +kernel
theorem dX1_of_177 : decode cX1_of 177 = .ok (.ifCond .eq 7, 3) := by decide +kernel
theorem dX1_of_180 : decode cX1_of 180 = .ok (.iconst 1, 1) := by decide +kernel
theorem dX1_of_181 : decode cX1_of 181 = .ok (.goto 4, 3) := by decide +kernel
theorem dX1_of_184 : decode cX1_of 184 = .ok (.iconst 0, 1) := by decide +kernel
theorem dX1_of_185 : decode cX1_of 185 = .ok (.ireturn, 1) := by decide +kernel
theorem dX1_of_186 : decode cX1_of 186 = .ok (.bipush 64, 2) := by decide +kernel
theorem dX1_of_188 : decode cX1_of 188 = .ok (.aload_n 0, 1) := by decide +kernel
theorem dX1_of_189 : decode cX1_of 189 = .ok (.iload_n 1, 1) := by decide +kernel
theorem dX1_of_190 : decode cX1_of 190 = .ok (.iconst 0, 1) := by decide +kernel
theorem dX1_of_191 : decode cX1_of 191 = .ok (.invokevirtual 38, 3) := by decide +kernel
theorem dX1_of_194 : decode cX1_of 194 = .ok (.isub, 1) := by decide +kernel
theorem dX1_of_195 : decode cX1_of 195 = .ok (.ireturn, 1) := by decide +kernel
set_option maxRecDepth 20000 in
theorem ggX1_men_X1_isIn : GoodIn wsX1_men wsX1_isIn := goodIn_r _ [7, 8, 9, 10, 11, 12, 13, 14, 15] (by decide +kernel) (by decide +kernel)
set_option maxRecDepth 20000 in
theorem gX1_men_X1_isIn : GoodIn wsX1_men (wsV RX1 67 RX1 yX1_isIn wsX1_isIn) := goodIn_app (goodIn_of _ (by decide +kernel)) ggX1_men_X1_isIn
theorem dX1_men_0 : decode cX1_men 0 = .ok (.aload_n 0, 1) := by decide +kernel
theorem dX1_men_1 : decode cX1_men 1 = .ok (.aload_n 0, 1) := by decide +kernel
theorem dX1_men_2 : decode cX1_men 2 = .ok (.iload_n 1, 1) := by decide +kernel
theorem dX1_men_3 : decode cX1_men 3 = .ok (.invokevirtual 67, 3) := by decide +kernel
theorem dX1_men_6 : decode cX1_men 6 = .ok (.ifCond .eq 16, 3) := by decide +kernel
theorem dX1_men_9 : decode cX1_men 9 = .ok (.iload_n 2, 1) := by decide +kernel
theorem dX1_men_10 : decode cX1_men 10 = .ok (.ifCond .lt 12, 3) := by decide +kernel
theorem dX1_men_13 : decode cX1_men 13 = .ok (.iload_n 2, 1) := by decide +kernel
theorem dX1_men_14 : decode cX1_men 14 = .ok (.iconst 3, 1) := by decide +kernel
theorem dX1_men_15 : decode cX1_men 15 = .ok (.if_icmp .gt 7, 3) := by decide +kernel
theorem dX1_men_18 : decode cX1_men 18 = .ok (.iconst 0, 1) := by decide +kernel
theorem dX1_men_19 : decode cX1_men 19 = .ok (.goto 4, 3) := by decide +kernel
theorem dX1_men_22 : decode cX1_men 22 = .ok (.iconst 1, 1) := by decide +kernel
theorem dX1_men_23 : decode cX1_men 23 = .ok (.putfield 26, 3) := by decide +kernel
theorem dX1_men_26 : decode cX1_men 26 = .ok (.aload_n 0, 1) := by decide +kernel
theorem dX1_men_27 : decode cX1_men 27 = .ok (.getfield 26, 3) := by decide +kernel
theorem dX1_men_30 : decode cX1_men 30 = .ok (.ifCond .le 5, 3) := by decide +kernel
theorem dX1_men_33 : decode cX1_men 33 = .ok (.lconst 0, 1) := by decide +kernel
theorem dX1_men_34 : decode cX1_men 34 = .ok (.lreturn, 1) := by decide +kernel
theorem dX1_men_35 : decode cX1_men 35 = .ok (.lconst 0, 1) := by decide +kernel
theorem dX1_men_36 : decode cX1_men 36 = .ok (.lstore_n 3, 1) := by decide +kernel
theorem dX1_men_37 : decode cX1_men 37 = .ok (.iconst 0, 1) := by decide +kernel
theorem dX1_men_38 : decode cX1_men 38 = .ok (.istore 5, 2) := by decide +kernel
theorem dX1_men_40 : decode cX1_men 40 = .ok (.iload 5, 2) := by decide +kernel
theorem dX1_men_42 : decode cX1_men 42 = .ok (.bipush 16, 2) := by decide +kernel
theorem dX1_men_44 : decode cX1_men 44 = .ok (.if_icmp .ge 32, 3) := by decide +kernel
theorem dX1_men_47 : decode cX1_men 47 = .ok (.lload_n 3, 1) := by decide +kernel
theorem dX1_men_48 : decode cX1_men 48 = .ok (.iconst 4, 1) := by decide +kernel
theorem dX1_men_49 : decode cX1_men 49 = .ok (.lshl, 1) := by decide +kernel
theorem dX1_men_50 : decode cX1_men 50 = .ok (.aload_n 0, 1) := by decide +kernel
theorem dX1_men_51 : decode cX1_men 51 = .ok (.getfield 14, 3) := by decide +kernel
theorem dX1_men_54 : decode cX1_men 54 = .ok (.bipush 64, 2) := by decide +kernel
theorem dX1_men_56 : decode cX1_men 56 = .ok (.iload_n 1, 1) := by decide +kernel
theorem dX1_men_57 : decode cX1_men 57 = .ok (.imul, 1) := by decide +kernel
theorem dX1_men_58 : decode cX1_men 58 = .ok (.bipush 16, 2) := by decide +kernel
theorem dX1_men_60 : decode cX1_men 60 = .ok (.iload_n 2, 1) := by decide +kernel
theorem dX1_men_61 : decode cX1_men 61 = .ok (.imul, 1) := by decide +kernel
theorem dX1_men_62 : decode cX1_men 62 = .ok (.iadd, 1) := by decide +kernel
theorem dX1_men_63 : decode cX1_men 63 = .ok (.iload 5, 2) := by decide +kernel
theorem dX1_men_65 : decode cX1_men 65 = .ok (.iadd, 1) := by decide +kernel
theorem dX1_men_66 : decode cX1_men 66 = .ok (.iaload, 1) := by decide +kernel
theorem dX1_men_67 : decode cX1_men 67 = .ok (.i2l, 1) := by decide +kernel
theorem dX1_men_68 : decode cX1_men 68 = .ok (.lor, 1) := by decide +kernel
theorem dX1_men_69 : decode cX1_men 69 = .ok (.lstore_n 3, 1) := by decide +kernel
theorem dX1_men_70 : decode cX1_men 70 = .ok (.iinc 5 1, 3) := by decide +kernel
theorem dX1_men_73 : decode cX1_men 73 = .ok (.goto (-33), 3) := by decide +kernel
theorem dX1_men_76 : decode cX1_men 76 = .ok (.lload_n 3, 1) := by decide +kernel
theorem dX1_men_77 : decode cX1_men 77 = .ok (.lreturn, 1) := by decide +kernel
set_option maxRecDepth 20000 in
theorem ggX1_times_X1_isState : GoodIn wsX1_times wsX1_isState := goodIn_r _ [6] (by decide +kernel) (by decide +kernel)
set_option maxRecDepth 20000 in
theorem gX1_times_X1_isState : GoodIn wsX1_times (va_wsS RX1 60 yX1_isState wsX1_isState) := goodIn_app (goodIn_of _ (by decide +kernel)) ggX1_times_X1_isState
set_option maxRecDepth 20000 in
theorem ggX1_times_X1_isNext : GoodIn wsX1_times wsX1_isNext := goodIn_r _ [10, 11, 12, 13, 14, 15, 16, 17, 18, 19, 20] (by decide +kernel) (by decide +kernel)
set_option maxRecDepth 20000 in
theorem gX1_times_X1_isNext : GoodIn wsX1_times (wsV RX1 70 RX1 yX1_isNext wsX1_isNext) := goodIn_app (goodIn_of _ (by decide +kernel)) ggX1_times_X1_isNext
theorem dX1_times_0 : decode cX1_times 0 = .ok (.aload_n 0, 1) := by decide +kernel
theorem dX1_times_1 : decode cX1_times 1 = .ok (.iload_n 1, 1) := by decide +kernel
theorem dX1_times_2 : decode cX1_times 2 = .ok (.invokestatic 60, 3) := by decide +kernel
theorem dX1_times_5 : decode cX1_times 5 = .ok (.ifCond .eq 7, 3) := by decide +kernel
theorem dX1_times_8 : decode cX1_times 8 = .ok (.iconst 0, 1) := by decide +kernel
theorem dX1_times_9 : decode cX1_times 9 = .ok (.goto 4, 3) := by decide +kernel
theorem dX1_times_12 : decode cX1_times 12 = .ok (.iconst 1, 1) := by decide +kernel
theorem dX1_times_13 : decode cX1_times 13 = .ok (.putfield 26, 3) := by decide +kernel
theorem dX1_times_16 : decode cX1_times 16 = .ok (.iconst 0, 1) := by decide +kernel
theorem dX1_times_17 : decode cX1_times 17 = .ok (.istore_n 2, 1) := by decide +kernel
theorem dX1_times_18 : decode cX1_times 18 = .ok (.iconst 0, 1) := by decide +kernel
theorem dX1_times_19 : decode cX1_times 19 = .ok (.istore_n 3, 1) := by decide +kernel
theorem dX1_times_20 : decode cX1_times 20 = .ok (.iload_n 3, 1) := by decide +kernel
theorem dX1_times_21 : decode cX1_times 21 = .ok (.aload_n 0, 1) := by decide +kernel
theorem dX1_times_22 : decode cX1_times 22 = .ok (.getfield 53, 3) := by decide +kernel
theorem dX1_times_25 : decode cX1_times 25 = .ok (.if_icmp .ge 33, 3) := by decide +kernel
theorem dX1_times_28 : decode cX1_times 28 = .ok (.aload_n 0, 1) := by decide +kernel
theorem dX1_times_29 : decode cX1_times 29 = .ok (.getfield 26, 3) := by decide +kernel
theorem dX1_times_32 : decode cX1_times 32 = .ok (.ifCond .ne 26, 3) := by decide +kernel
theorem dX1_times_35 : decode cX1_times 35 = .ok (.iload_n 2, 1) := by decide +kernel
theorem dX1_times_36 : decode cX1_times 36 = .ok (.aload_n 0, 1) := by decide +kernel
theorem dX1_times_37 : decode cX1_times 37 = .ok (.iload_n 3, 1) := by decide +kernel
theorem dX1_times_38 : decode cX1_times 38 = .ok (.iload_n 1, 1) := by decide +kernel
theorem dX1_times_39 : decode cX1_times 39 = .ok (.invokevirtual 70, 3) := by decide +kernel
theorem dX1_times_42 : decode cX1_times 42 = .ok (.ifCond .eq 7, 3) := by decide +kernel
theorem dX1_times_45 : decode cX1_times 45 = .ok (.iconst 1, 1) := by decide +kernel
theorem dX1_times_46 : decode cX1_times 46 = .ok (.goto 4, 3) := by decide +kernel
theorem dX1_times_49 : decode cX1_times 49 = .ok (.iconst 0, 1) := by decide +kernel
theorem dX1_times_50 : decode cX1_times 50 = .ok (.iadd, 1) := by decide +kernel
theorem dX1_times_51 : decode cX1_times 51 = .ok (.istore_n 2, 1) := by decide +kernel
theorem dX1_times_52 : decode cX1_times 52 = .ok (.iinc 3 1, 3) := by decide +kernel
theorem dX1_times_55 : decode cX1_times 55 = .ok (.goto (-35), 3) := by decide +kernel
theorem dX1_times_58 : decode cX1_times 58 = .ok (.iload_n 2, 1) := by decide +kernel
theorem dX1_times_59 : decode cX1_times 59 = .ok (.ireturn, 1) := by decide +kernel
set_option maxRecDepth 20000 in
theorem ggX1_look_X1_countOf : GoodIn wsX1_look wsX1_countOf := goodIn_r _ [8, 9, 10, 11, 7, 12, 13, 14, 15, 16, 17, 18, 19, 20, 21] (by decide +kernel) (by decide +kernel)
set_option maxRecDepth 20000 in
theorem gX1_look_X1_countOf : GoodIn wsX1_look (wsV RX1 45 RX1 yX1_countOf wsX1_countOf) := goodIn_app (goodIn_of _ (by decide +kernel)) ggX1_look_X1_countOf
theorem dX1_look_0 : decode cX1_look 0 = .ok (.aload_n 0, 1) := by decide +kernel
theorem dX1_look_1 : decode cX1_look 1 = .ok (.iconst 0, 1) := by decide +kernel
theorem dX1_look_2 : decode cX1_look 2 = .ok (.putfield 26, 3) := by decide +kernel
theorem dX1_look_5 : decode cX1_look 5 = .ok (.iconst 0, 1) := by decide +kernel
theorem dX1_look_6 : decode cX1_look 6 = .ok (.istore_n 2, 1) := by decide +kernel
theorem dX1_look_7 : decode cX1_look 7 = .ok (.iconst 0, 1) := by decide +kernel
theorem dX1_look_8 : decode cX1_look 8 = .ok (.istore_n 3, 1) := by decide +kernel
theorem dX1_look_9 : decode cX1_look 9 = .ok (.iconst 0, 1) := by decide +kernel
theorem dX1_look_10 : decode cX1_look 10 = .ok (.istore 4, 2) := by decide +kernel
theorem dX1_look_12 : decode cX1_look 12 = .ok (.iconst 0, 1) := by decide +kernel
theorem dX1_look_13 : decode cX1_look 13 = .ok (.istore 5, 2) := by decide +kernel
theorem dX1_look_15 : decode cX1_look 15 = .ok (.iload 5, 2) := by decide +kernel
theorem dX1_look_17 : decode cX1_look 17 = .ok (.aload_n 0, 1) := by decide +kernel
theorem dX1_look_18 : decode cX1_look 18 = .ok (.getfield 53, 3) := by decide +kernel
theorem dX1_look_21 : decode cX1_look 21 = .ok (.if_icmp .ge 79, 3) := by decide +kernel
theorem dX1_look_24 : decode cX1_look 24 = .ok (.iload_n 1, 1) := by decide +kernel
theorem dX1_look_25 : decode cX1_look 25 = .ok (.ifCond .le 75, 3) := by decide +kernel
theorem dX1_look_28 : decode cX1_look 28 = .ok (.iload_n 1, 1) := by decide +kernel
theorem dX1_look_29 : decode cX1_look 29 = .ok (.iconst 4, 1) := by decide +kernel
theorem dX1_look_30 : decode cX1_look 30 = .ok (.if_icmp .ge 70, 3) := by decide +kernel
theorem dX1_look_33 : decode cX1_look 33 = .ok (.aload_n 0, 1) := by decide +kernel
theorem dX1_look_34 : decode cX1_look 34 = .ok (.iload 5, 2) := by decide +kernel
theorem dX1_look_36 : decode cX1_look 36 = .ok (.invokevirtual 45, 3) := by decide +kernel
theorem dX1_look_39 : decode cX1_look 39 = .ok (.istore 6, 2) := by decide +kernel
theorem dX1_look_41 : decode cX1_look 41 = .ok (.iload_n 2, 1) := by decide +kernel
theorem dX1_look_42 : decode cX1_look 42 = .ok (.iload 6, 2) := by decide +kernel
theorem dX1_look_44 : decode cX1_look 44 = .ok (.iconst 1, 1) := by decide +kernel
theorem dX1_look_45 : decode cX1_look 45 = .ok (.if_icmp .ne 7, 3) := by decide +kernel
theorem dX1_look_48 : decode cX1_look 48 = .ok (.iconst 1, 1) := by decide +kernel
theorem dX1_look_49 : decode cX1_look 49 = .ok (.goto 4, 3) := by decide +kernel
theorem dX1_look_52 : decode cX1_look 52 = .ok (.iconst 0, 1) := by decide +kernel
theorem dX1_look_53 : decode cX1_look 53 = .ok (.iadd, 1) := by decide +kernel
theorem dX1_look_54 : decode cX1_look 54 = .ok (.istore_n 2, 1) := by decide +kernel
theorem dX1_look_55 : decode cX1_look 55 = .ok (.iload 6, 2) := by decide +kernel
theorem dX1_look_57 : decode cX1_look 57 = .ok (.iload_n 3, 1) := by decide +kernel
theorem dX1_look_58 : decode cX1_look 58 = .ok (.if_icmp .le 8, 3) := by decide +kernel
theorem dX1_look_61 : decode cX1_look 61 = .ok (.iload 6, 2) := by decide +kernel
theorem dX1_look_63 : decode cX1_look 63 = .ok (.goto 4, 3) := by decide +kernel
theorem dX1_look_66 : decode cX1_look 66 = .ok (.iload_n 3, 1) := by decide +kernel
theorem dX1_look_67 : decode cX1_look 67 = .ok (.istore_n 3, 1) := by decide +kernel
theorem dX1_look_68 : decode cX1_look 68 = .ok (.aload_n 0, 1) := by decide +kernel
theorem dX1_look_69 : decode cX1_look 69 = .ok (.getfield 20, 3) := by decide +kernel
theorem dX1_look_72 : decode cX1_look 72 = .ok (.iload 5, 2) := by decide +kernel
theorem dX1_look_74 : decode cX1_look 74 = .ok (.iaload, 1) := by decide +kernel
theorem dX1_look_75 : decode cX1_look 75 = .ok (.iload 4, 2) := by decide +kernel
theorem dX1_look_77 : decode cX1_look 77 = .ok (.if_icmp .le 13, 3) := by decide +kernel
theorem dX1_look_80 : decode cX1_look 80 = .ok (.aload_n 0, 1) := by decide +kernel
theorem dX1_look_81 : decode cX1_look 81 = .ok (.getfield 20, 3) := by decide +kernel
theorem dX1_look_84 : decode cX1_look 84 = .ok (.iload 5, 2) := by decide +kernel
theorem dX1_look_86 : decode cX1_look 86 = .ok (.iaload, 1) := by decide +kernel
theorem dX1_look_87 : decode cX1_look 87 = .ok (.goto 5, 3) := by decide +kernel
theorem dX1_look_90 : decode cX1_look 90 = .ok (.iload 4, 2) := by decide +kernel
theorem dX1_look_92 : decode cX1_look 92 = .ok (.istore 4, 2) := by decide +kernel
theorem dX1_look_94 : decode cX1_look 94 = .ok (.iinc 5 1, 3) := by decide +kernel
theorem dX1_look_97 : decode cX1_look 97 = .ok (.goto (-82), 3) := by decide +kernel
theorem dX1_look_100 : decode cX1_look 100 = .ok (.iload_n 1, 1) := by decide +kernel
theorem dX1_look_101 : decode cX1_look 101 = .ok (.ifCond .ne 10, 3) := by decide +kernel
theorem dX1_look_104 : decode cX1_look 104 = .ok (.aload_n 0, 1) := by decide +kernel
theorem dX1_look_105 : decode cX1_look 105 = .ok (.getfield 53, 3) := by decide +kernel
theorem dX1_look_108 : decode cX1_look 108 = .ok (.goto 32, 3) := by decide +kernel
theorem dX1_look_111 : decode cX1_look 111 = .ok (.iload_n 1, 1) := by decide +kernel
theorem dX1_look_112 : decode cX1_look 112 = .ok (.iconst 1, 1) := by decide +kernel
theorem dX1_look_113 : decode cX1_look 113 = .ok (.if_icmp .ne 7, 3) := by decide +kernel
theorem dX1_look_116 : decode cX1_look 116 = .ok (.iload_n 2, 1) := by decide +kernel
theorem dX1_look_117 : decode cX1_look 117 = .ok (.goto 23, 3) := by decide +kernel
theorem dX1_look_120 : decode cX1_look 120 = .ok (.iload_n 1, 1) := by decide +kernel
theorem dX1_look_121 : decode cX1_look 121 = .ok (.iconst 2, 1) := by decide +kernel
theorem dX1_look_122 : decode cX1_look 122 = .ok (.if_icmp .ne 7, 3) := by decide +kernel
theorem dX1_look_125 : decode cX1_look 125 = .ok (.iload_n 3, 1) := by decide +kernel
theorem dX1_look_126 : decode cX1_look 126 = .ok (.goto 14, 3) := by decide +kernel
theorem dX1_look_129 : decode cX1_look 129 = .ok (.iload_n 1, 1) := by decide +kernel
theorem dX1_look_130 : decode cX1_look 130 = .ok (.iconst 3, 1) := by decide +kernel
theorem dX1_look_131 : decode cX1_look 131 = .ok (.if_icmp .ne 8, 3) := by decide +kernel
theorem dX1_look_134 : decode cX1_look 134 = .ok (.iload 4, 2) := by decide +kernel
theorem dX1_look_136 : decode cX1_look 136 = .ok (.goto 4, 3) := by decide +kernel
theorem dX1_look_139 : decode cX1_look 139 = .ok (.iconst (-1), 1) := by decide +kernel
theorem dX1_look_140 : decode cX1_look 140 = .ok (.ireturn, 1) := by decide +kernel
theorem dJ9_max_7cf53_0 : decode cJ9_max_7cf53 0 = .ok (.iload_n 0, 1) := by decide +kernel
theorem dJ9_max_7cf53_1 : decode cJ9_max_7cf53 1 = .ok (.iload_n 1, 1) := by decide +kernel
theorem dJ9_max_7cf53_2 : decode cJ9_max_7cf53 2 = .ok (.if_icmp .lt 7, 3) := by decide +kernel
theorem dJ9_max_7cf53_5 : decode cJ9_max_7cf53 5 = .ok (.iload_n 0, 1) := by decide +kernel
theorem dJ9_max_7cf53_6 : decode cJ9_max_7cf53 6 = .ok (.goto 4, 3) := by decide +kernel
theorem dJ9_max_7cf53_9 : decode cJ9_max_7cf53 9 = .ok (.iload_n 1, 1) := by decide +kernel
theorem dJ9_max_7cf53_10 : decode cJ9_max_7cf53 10 = .ok (.ireturn, 1) := by decide +kernel
set_option maxRecDepth 20000 in
theorem ggL_begin_X0_begin : GoodIn wsL_begin wsX0_begin := goodIn_ca (goodIn_r _ [6, 7, 8, 9, 10, 11, 5, 12, 13, 14, 15, 16, 17, 18, 19, 20, 21, 22, 23, 24, 25, 26, 27, 28, 29, 30, 31, 32, 33, 34, 35, 36, 37, 38, 39, 40, 41, 42, 43, 44, 45, 46, 47, 48, 49, 50, 51, 52, 53, 54, 55, 56, 57, 58, 59, 60, 61, 62, 63, 64, 65, 66, 67, 68, 69, 70, 71, 72, 73, 74, 75, 76, 77, 78] (by decide +kernel) (by decide +kernel)) (goodIn_sub (fun _ h => List.mem_cons_of_mem _ (List.mem_append_right _ h)) (by decide +kernel))
set_option maxRecDepth 20000 in
theorem gL_begin_X0_begin : GoodIn wsL_begin (wsV RL 7 RX0 yX0_begin wsX0_begin) := goodIn_app (goodIn_of _ (by decide +kernel)) ggL_begin_X0_begin
theorem dL_begin_0 : decode cL_begin 0 = .ok (.aload 5, 2) := by decide +kernel
theorem dL_begin_2 : decode cL_begin 2 = .ok (.iconst 0, 1) := by decide +kernel
theorem dL_begin_3 : decode cL_begin 3 = .ok (.aload_n 0, 1) := by decide +kernel
theorem dL_begin_4 : decode cL_begin 4 = .ok (.iload_n 1, 1) := by decide +kernel
theorem dL_begin_5 : decode cL_begin 5 = .ok (.iload_n 2, 1) := by decide +kernel
theorem dL_begin_6 : decode cL_begin 6 = .ok (.iload_n 3, 1) := by decide +kernel
theorem dL_begin_7 : decode cL_begin 7 = .ok (.iload 4, 2) := by decide +kernel
theorem dL_begin_9 : decode cL_begin 9 = .ok (.invokevirtual 7, 3) := by decide +kernel
theorem dL_begin_12 : decode cL_begin 12 = .ok (.i2l, 1) := by decide +kernel
theorem dL_begin_13 : decode cL_begin 13 = .ok (.lastore, 1) := by decide +kernel
theorem dL_begin_14 : decode cL_begin 14 = .ok (.goto 7, 3) := by decide +kernel
theorem dL_begin_17 : decode cL_begin 17 = .ok (.astore 6, 2) := by decide +kernel
theorem dL_begin_19 : decode cL_begin 19 = .ok (.iconst 1, 1) := by decide +kernel
theorem dL_begin_20 : decode cL_begin 20 = .ok (.ireturn, 1) := by decide +kernel
theorem dL_begin_21 : decode cL_begin 21 = .ok (.iconst 0, 1) := by decide +kernel
theorem dL_begin_22 : decode cL_begin 22 = .ok (.ireturn, 1) := by decide +kernel
set_option maxRecDepth 20000 in
theorem ggL_next_X0_next : GoodIn wsL_next wsX0_next := goodIn_ca (goodIn_ca (goodIn_r _ [7, 8, 9, 10, 11, 12, 13, 14, 15, 6, 16, 17, 18, 19, 20, 21, 22, 23, 24, 25, 26, 27, 28, 29, 30, 31, 32, 33, 34, 35, 36, 37, 38, 39, 40, 41, 42, 43, 44, 45, 46, 47, 48, 49, 50, 51, 52, 53, 54, 55, 56, 57, 58, 59, 60, 61, 62, 63, 64, 65, 66, 67, 68, 69, 70, 71, 72, 73, 74, 75, 76, 77, 78, 79, 80, 81, 82] (by decide +kernel) (by decide +kernel)) (goodIn_sub (fun _ h => List.mem_cons_of_mem _ (List.mem_append_left _ (List.mem_append_right _ h))) (by decide +kernel))) (goodIn_sub (fun _ h => List.mem_cons_of_mem _ (List.mem_append_right _ h)) (by decide +kernel))
set_option maxRecDepth 20000 in
theorem gL_next_X0_next : GoodIn wsL_next (wsV RL 15 RX0 yX0_next wsX0_next) := goodIn_app (goodIn_of _ (by decide +kernel)) ggL_next_X0_next
theorem dL_next_0 : decode cL_next 0 = .ok (.aload 5, 2) := by decide +kernel
theorem dL_next_2 : decode cL_next 2 = .ok (.iconst 0, 1) := by decide +kernel
theorem dL_next_3 : decode cL_next 3 = .ok (.aload_n 0, 1) := by decide +kernel
theorem dL_next_4 : decode cL_next 4 = .ok (.iload_n 1, 1) := by decide +kernel
theorem dL_next_5 : decode cL_next 5 = .ok (.iload_n 2, 1) := by decide +kernel
theorem dL_next_6 : decode cL_next 6 = .ok (.iload_n 3, 1) := by decide +kernel
theorem dL_next_7 : decode cL_next 7 = .ok (.iload 4, 2) := by decide +kernel
theorem dL_next_9 : decode cL_next 9 = .ok (.invokevirtual 15, 3) := by decide +kernel
theorem dL_next_12 : decode cL_next 12 = .ok (.i2l, 1) := by decide +kernel
theorem dL_next_13 : decode cL_next 13 = .ok (.lastore, 1) := by decide +kernel
theorem dL_next_14 : decode cL_next 14 = .ok (.goto 11, 3) := by decide +kernel
theorem dL_next_17 : decode cL_next 17 = .ok (.astore 6, 2) := by decide +kernel
theorem dL_next_19 : decode cL_next 19 = .ok (.iconst 1, 1) := by decide +kernel
theorem dL_next_20 : decode cL_next 20 = .ok (.ireturn, 1) := by decide +kernel
theorem dL_next_21 : decode cL_next 21 = .ok (.astore 6, 2) := by decide +kernel
theorem dL_next_23 : decode cL_next 23 = .ok (.iconst 2, 1) := by decide +kernel
theorem dL_next_24 : decode cL_next 24 = .ok (.ireturn, 1) := by decide +kernel
theorem dL_next_25 : decode cL_next 25 = .ok (.iconst 0, 1) := by decide +kernel
theorem dL_next_26 : decode cL_next 26 = .ok (.ireturn, 1) := by decide +kernel
set_option maxRecDepth 20000 in
theorem ggL_of_X0_of : GoodIn wsL_of wsX0_of := goodIn_ca (goodIn_r _ [6, 7, 8, 9, 10, 11, 5, 12, 13, 14, 15, 16, 17, 18, 19, 20, 21, 22] (by decide +kernel) (by decide +kernel)) (goodIn_sub (fun _ h => List.mem_cons_of_mem _ (List.mem_append_right _ h)) (by decide +kernel))
set_option maxRecDepth 20000 in
theorem gL_of_X0_of : GoodIn wsL_of (wsV RL 21 RX0 yX0_of wsX0_of) := goodIn_app (goodIn_of _ (by decide +kernel)) ggL_of_X0_of
theorem dL_of_0 : decode cL_of 0 = .ok (.aload_n 3, 1) := by decide +kernel
theorem dL_of_1 : decode cL_of 1 = .ok (.iconst 0, 1) := by decide +kernel
theorem dL_of_2 : decode cL_of 2 = .ok (.aload_n 0, 1) := by decide +kernel
theorem dL_of_3 : decode cL_of 3 = .ok (.iload_n 1, 1) := by decide +kernel
theorem dL_of_4 : decode cL_of 4 = .ok (.iload_n 2, 1) := by decide +kernel
theorem dL_of_5 : decode cL_of 5 = .ok (.invokevirtual 21, 3) := by decide +kernel
theorem dL_of_8 : decode cL_of 8 = .ok (.i2l, 1) := by decide +kernel
theorem dL_of_9 : decode cL_of 9 = .ok (.lastore, 1) := by decide +kernel
theorem dL_of_10 : decode cL_of 10 = .ok (.goto 7, 3) := by decide +kernel
theorem dL_of_13 : decode cL_of 13 = .ok (.astore 4, 2) := by decide +kernel
theorem dL_of_15 : decode cL_of 15 = .ok (.iconst 1, 1) := by decide +kernel
theorem dL_of_16 : decode cL_of 16 = .ok (.ireturn, 1) := by decide +kernel
theorem dL_of_17 : decode cL_of 17 = .ok (.iconst 0, 1) := by decide +kernel
theorem dL_of_18 : decode cL_of 18 = .ok (.ireturn, 1) := by decide +kernel
set_option maxRecDepth 20000 in
theorem ggL_men_X0_men : GoodIn wsL_men wsX0_men := goodIn_ca (goodIn_r _ [6, 7, 8, 9, 10, 11, 12, 5, 13, 14, 15, 16, 17, 18, 19, 20, 21] (by decide +kernel) (by decide +kernel)) (goodIn_sub (fun _ h => List.mem_cons_of_mem _ (List.mem_append_right _ h)) (by decide +kernel))
set_option maxRecDepth 20000 in
theorem gL_men_X0_men : GoodIn wsL_men (wsV RL 27 RX0 yX0_men wsX0_men) := goodIn_app (goodIn_of _ (by decide +kernel)) ggL_men_X0_men
theorem dL_men_0 : decode cL_men 0 = .ok (.aload_n 3, 1) := by decide +kernel
theorem dL_men_1 : decode cL_men 1 = .ok (.iconst 0, 1) := by decide +kernel
theorem dL_men_2 : decode cL_men 2 = .ok (.aload_n 0, 1) := by decide +kernel
theorem dL_men_3 : decode cL_men 3 = .ok (.iload_n 1, 1) := by decide +kernel
theorem dL_men_4 : decode cL_men 4 = .ok (.iload_n 2, 1) := by decide +kernel
theorem dL_men_5 : decode cL_men 5 = .ok (.invokevirtual 27, 3) := by decide +kernel
theorem dL_men_8 : decode cL_men 8 = .ok (.lastore, 1) := by decide +kernel
theorem dL_men_9 : decode cL_men 9 = .ok (.goto 7, 3) := by decide +kernel
theorem dL_men_12 : decode cL_men 12 = .ok (.astore 4, 2) := by decide +kernel
theorem dL_men_14 : decode cL_men 14 = .ok (.iconst 1, 1) := by decide +kernel
theorem dL_men_15 : decode cL_men 15 = .ok (.ireturn, 1) := by decide +kernel
theorem dL_men_16 : decode cL_men 16 = .ok (.iconst 0, 1) := by decide +kernel
theorem dL_men_17 : decode cL_men 17 = .ok (.ireturn, 1) := by decide +kernel
set_option maxRecDepth 20000 in
theorem ggL_times_X0_times : GoodIn wsL_times wsX0_times := goodIn_ca (goodIn_r _ [6, 7, 8, 9, 10, 5, 11, 12, 13, 14, 15, 16, 17, 18, 19, 20, 21, 22, 23, 24, 25, 26, 27, 28, 29, 30, 31, 32, 33, 34, 35, 36, 37, 38, 39] (by decide +kernel) (by decide +kernel)) (goodIn_sub (fun _ h => List.mem_cons_of_mem _ (List.mem_append_right _ h)) (by decide +kernel))
set_option maxRecDepth 20000 in
theorem gL_times_X0_times : GoodIn wsL_times (wsV RL 31 RX0 yX0_times wsX0_times) := goodIn_app (goodIn_of _ (by decide +kernel)) ggL_times_X0_times
theorem dL_times_0 : decode cL_times 0 = .ok (.aload_n 2, 1) := by decide +kernel
theorem dL_times_1 : decode cL_times 1 = .ok (.iconst 0, 1) := by decide +kernel
theorem dL_times_2 : decode cL_times 2 = .ok (.aload_n 0, 1) := by decide +kernel
theorem dL_times_3 : decode cL_times 3 = .ok (.iload_n 1, 1) := by decide +kernel
theorem dL_times_4 : decode cL_times 4 = .ok (.invokevirtual 31, 3) := by decide +kernel
theorem dL_times_7 : decode cL_times 7 = .ok (.i2l, 1) := by decide +kernel
theorem dL_times_8 : decode cL_times 8 = .ok (.lastore, 1) := by decide +kernel
theorem dL_times_9 : decode cL_times 9 = .ok (.goto 6, 3) := by decide +kernel
theorem dL_times_12 : decode cL_times 12 = .ok (.astore_n 3, 1) := by decide +kernel
theorem dL_times_13 : decode cL_times 13 = .ok (.iconst 1, 1) := by decide +kernel
theorem dL_times_14 : decode cL_times 14 = .ok (.ireturn, 1) := by decide +kernel
theorem dL_times_15 : decode cL_times 15 = .ok (.iconst 0, 1) := by decide +kernel
theorem dL_times_16 : decode cL_times 16 = .ok (.ireturn, 1) := by decide +kernel
set_option maxRecDepth 20000 in
theorem ggL_law_X0_init : GoodIn wsL_law wsX0_init := goodIn_r _ [10, 11, 12, 13, 6, 14, 15, 16, 17, 18, 257, 258, 259, 260] (by decide +kernel) (by decide +kernel)
set_option maxRecDepth 20000 in
theorem gL_law_X0_init : GoodIn wsL_law (wsX0_init) := ggL_law_X0_init
set_option maxRecDepth 20000 in
theorem ggL_law_X1_init : GoodIn wsL_law wsX1_init := goodIn_r _ [21, 22, 12, 13, 16, 23, 24, 25, 26, 27, 28, 261, 262, 263, 264, 265, 266, 267] (by decide +kernel) (by decide +kernel)
set_option maxRecDepth 20000 in
theorem gL_law_X1_init : GoodIn wsL_law (wsX1_init) := ggL_law_X1_init
set_option maxRecDepth 20000 in
theorem ggL_law_X0_squares : GoodIn wsL_law wsX0_squares := goodIn_r _ [32, 14, 33, 34, 2, 35, 36, 37, 38, 39, 40, 41, 257, 258, 259, 260] (by decide +kernel) (by decide +kernel)
set_option maxRecDepth 20000 in
theorem gL_law_X0_squares : GoodIn wsL_law (wsV RL 41 RX0 yX0_squares wsX0_squares) := goodIn_app (goodIn_of _ (by decide +kernel)) ggL_law_X0_squares
set_option maxRecDepth 20000 in
theorem ggL_law_X1_squares : GoodIn wsL_law wsX1_squares := goodIn_r _ [45, 46, 47, 48, 23, 261, 262, 263, 264, 265, 266, 267] (by decide +kernel) (by decide +kernel)
set_option maxRecDepth 20000 in
theorem gL_law_X1_squares : GoodIn wsL_law (wsV RL 45 RX1 yX1_squares wsX1_squares) := goodIn_app (goodIn_of _ (by decide +kernel)) ggL_law_X1_squares
set_option maxRecDepth 20000 in
theorem ggL_law_L_begin : GoodIn wsL_law wsL_begin := goodIn_ca (goodIn_r _ [52, 53, 54, 55, 56, 2, 57, 58, 59, 18, 60, 61, 62, 63, 64, 65, 66, 67, 68, 69, 70, 71, 72, 17, 14, 15, 73, 74, 75, 76, 77, 78, 79, 80, 81, 82, 83, 84, 85, 86, 87, 88, 89, 90, 91, 92, 93, 94, 95, 96, 97, 98, 99, 100, 101, 102, 103, 104, 39, 40, 41, 105, 106, 107, 108, 109, 110, 111, 112, 113, 114, 115, 116, 117, 118, 257, 258, 259, 260] (by decide +kernel) (by decide +kernel)) (goodIn_sub (fun _ h => List.mem_append_left _ (List.mem_append_left _ (List.mem_append_right _ h))) (by decide +kernel))
set_option maxRecDepth 20000 in
theorem gL_law_L_begin : GoodIn wsL_law (va_wsS RL 46 yL_begin wsL_begin) := goodIn_app (goodIn_of _ (by decide +kernel)) ggL_law_L_begin
set_option maxRecDepth 20000 in
theorem ggL_law_X1_begin : GoodIn wsL_law wsX1_begin := goodIn_r _ [122, 46, 123, 124, 125, 5, 126, 127, 128, 129, 130, 25, 23, 26, 27, 28, 131, 132, 133, 134, 135, 136, 137, 138, 139, 140, 141, 142, 143, 144, 145, 146, 147, 148, 149, 150, 151, 152, 153, 154, 261, 262, 263, 264, 265, 266, 267] (by decide +kernel) (by decide +kernel)
set_option maxRecDepth 20000 in
theorem gL_law_X1_begin : GoodIn wsL_law (wsV RL 51 RX1 yX1_begin wsX1_begin) := goodIn_app (goodIn_of _ (by decide +kernel)) ggL_law_X1_begin
set_option maxRecDepth 20000 in
theorem ggL_law_X1_thrown : GoodIn wsL_law wsX1_thrown := goodIn_r _ [158, 46, 261, 262, 263, 264, 265, 266, 267] (by decide +kernel) (by decide +kernel)
set_option maxRecDepth 20000 in
theorem gL_law_X1_thrown : GoodIn wsL_law (wsV RL 52 RX1 yX1_thrown wsX1_thrown) := goodIn_app (goodIn_of _ (by decide +kernel)) ggL_law_X1_thrown
set_option maxRecDepth 20000 in
theorem ggL_law_L_next : GoodIn wsL_law wsL_next := goodIn_ca (goodIn_ca (goodIn_r _ [161, 162, 53, 163, 164, 165, 2, 166, 167, 168, 58, 59, 18, 169, 170, 171, 172, 81, 82, 83, 84, 17, 60, 61, 62, 63, 64, 65, 69, 70, 71, 72, 14, 15, 73, 74, 75, 76, 77, 78, 79, 80, 85, 86, 87, 88, 89, 90, 91, 92, 93, 94, 95, 96, 97, 98, 99, 100, 101, 102, 103, 104, 39, 40, 41, 105, 106, 107, 108, 109, 110, 111, 112, 113, 114, 115, 116, 117, 118, 257, 258, 259, 260] (by decide +kernel) (by decide +kernel)) (goodIn_sub (fun _ h => List.mem_append_left _ (List.mem_append_right _ h)) (by decide +kernel))) (goodIn_sub (fun _ h => List.mem_append_left _ (List.mem_append_left _ (List.mem_append_right _ h))) (by decide +kernel))
set_option maxRecDepth 20000 in
theorem gL_law_L_next : GoodIn wsL_law (va_wsS RL 56 yL_next wsL_next) := goodIn_app (goodIn_of _ (by decide +kernel)) ggL_law_L_next
set_option maxRecDepth 20000 in
theorem ggL_law_X1_next : GoodIn wsL_law wsX1_next := goodIn_r _ [176, 123, 28, 46, 27, 124, 125, 5, 126, 127, 128, 129, 130, 25, 23, 26, 131, 132, 133, 134, 135, 136, 137, 138, 139, 140, 141, 142, 143, 144, 145, 146, 147, 148, 149, 150, 151, 152, 153, 154, 261, 262, 263, 264, 265, 266, 267] (by decide +kernel) (by decide +kernel)
set_option maxRecDepth 20000 in
theorem gL_law_X1_next : GoodIn wsL_law (wsV RL 59 RX1 yX1_next wsX1_next) := goodIn_app (goodIn_of _ (by decide +kernel)) ggL_law_X1_next
set_option maxRecDepth 20000 in
theorem ggL_law_X0_back : GoodIn wsL_law wsX0_back := goodIn_r _ [180, 18, 257, 258, 259, 260] (by decide +kernel) (by decide +kernel)
set_option maxRecDepth 20000 in
theorem gL_law_X0_back : GoodIn wsL_law (wsV RL 60 RX0 yX0_back wsX0_back) := goodIn_app (goodIn_of _ (by decide +kernel)) ggL_law_X0_back
set_option maxRecDepth 20000 in
theorem ggL_law_X1_back : GoodIn wsL_law wsX1_back := goodIn_r _ [184, 46, 123, 261, 262, 263, 264, 265, 266, 267] (by decide +kernel) (by decide +kernel)
set_option maxRecDepth 20000 in
theorem gL_law_X1_back : GoodIn wsL_law (wsV RL 64 RX1 yX1_back wsX1_back) := goodIn_app (goodIn_of _ (by decide +kernel)) ggL_law_X1_back
set_option maxRecDepth 20000 in
theorem ggL_law_X0_verdict : GoodIn wsL_law wsX0_verdict := goodIn_r _ [188, 18, 81, 82, 83, 2, 84, 17, 257, 258, 259, 260] (by decide +kernel) (by decide +kernel)
set_option maxRecDepth 20000 in
theorem gL_law_X0_verdict : GoodIn wsL_law (wsV RL 65 RX0 yX0_verdict wsX0_verdict) := goodIn_app (goodIn_of _ (by decide +kernel)) ggL_law_X0_verdict
set_option maxRecDepth 20000 in
theorem ggL_law_X1_verdict : GoodIn wsL_law wsX1_verdict := goodIn_r _ [192, 46, 123, 28, 261, 262, 263, 264, 265, 266, 267] (by decide +kernel) (by decide +kernel)
set_option maxRecDepth 20000 in
theorem gL_law_X1_verdict : GoodIn wsL_law (wsV RL 68 RX1 yX1_verdict wsX1_verdict) := goodIn_app (goodIn_of _ (by decide +kernel)) ggL_law_X1_verdict
set_option maxRecDepth 20000 in
theorem ggL_law_L_of : GoodIn wsL_law wsL_of := goodIn_ca (goodIn_r _ [195, 196, 197, 198, 199, 2, 200, 201, 202, 93, 94, 95, 96, 18, 81, 82, 83, 84, 17, 257, 258, 259, 260] (by decide +kernel) (by decide +kernel)) (goodIn_sub (fun _ h => List.mem_append_right _ h) (by decide +kernel))
set_option maxRecDepth 20000 in
theorem gL_law_L_of : GoodIn wsL_law (va_wsS RL 69 yL_of wsL_of) := goodIn_app (goodIn_of _ (by decide +kernel)) ggL_law_L_of
set_option maxRecDepth 20000 in
theorem ggL_law_X1_of : GoodIn wsL_law wsX1_of := goodIn_r _ [206, 46, 27, 28, 26, 207, 208, 209, 5, 210, 123, 139, 140, 141, 142, 25, 135, 136, 137, 138, 143, 144, 145, 146, 147, 148, 149, 150, 151, 152, 153, 154, 261, 262, 263, 264, 265, 266, 267] (by decide +kernel) (by decide +kernel)
set_option maxRecDepth 20000 in
theorem gL_law_X1_of : GoodIn wsL_law (wsV RL 72 RX1 yX1_of wsX1_of) := goodIn_app (goodIn_of _ (by decide +kernel)) ggL_law_X1_of
set_option maxRecDepth 20000 in
theorem ggL_law_L_men : GoodIn wsL_law wsL_men := goodIn_ca (goodIn_r _ [213, 196, 214, 215, 216, 2, 217, 201, 202, 15, 93, 94, 95, 96, 18, 33, 34, 35, 257, 258, 259, 260] (by decide +kernel) (by decide +kernel)) (goodIn_sub (fun _ h => List.mem_append_right _ h) (by decide +kernel))
set_option maxRecDepth 20000 in
theorem gL_law_L_men : GoodIn wsL_law (va_wsS RL 73 yL_men wsL_men) := goodIn_app (goodIn_of _ (by decide +kernel)) ggL_law_L_men
set_option maxRecDepth 20000 in
theorem ggL_law_X1_men : GoodIn wsL_law wsX1_men := goodIn_r _ [221, 46, 25, 207, 208, 209, 5, 210, 123, 261, 262, 263, 264, 265, 266, 267] (by decide +kernel) (by decide +kernel)
set_option maxRecDepth 20000 in
theorem gL_law_X1_men : GoodIn wsL_law (wsV RL 75 RX1 yX1_men wsX1_men) := goodIn_app (goodIn_of _ (by decide +kernel)) ggL_law_X1_men
set_option maxRecDepth 20000 in
theorem ggL_law_L_times : GoodIn wsL_law wsL_times := goodIn_ca (goodIn_r _ [224, 53, 225, 226, 227, 2, 228, 58, 59, 60, 61, 62, 77, 78, 79, 80, 18, 81, 82, 83, 84, 17, 85, 86, 87, 88, 15, 14, 89, 90, 91, 92, 93, 94, 95, 96, 257, 258, 259, 260] (by decide +kernel) (by decide +kernel)) (goodIn_sub (fun _ h => List.mem_append_left _ (List.mem_append_left _ (List.mem_append_right _ h))) (by decide +kernel))
set_option maxRecDepth 20000 in
theorem gL_law_L_times : GoodIn wsL_law (va_wsS RL 76 yL_times wsL_times) := goodIn_app (goodIn_of _ (by decide +kernel)) ggL_law_L_times
set_option maxRecDepth 20000 in
theorem ggL_law_X1_times : GoodIn wsL_law wsX1_times := goodIn_r _ [232, 46, 123, 124, 125, 5, 126, 233, 234, 235, 236, 26, 25, 23, 261, 262, 263, 264, 265, 266, 267] (by decide +kernel) (by decide +kernel)
set_option maxRecDepth 20000 in
theorem gL_law_X1_times : GoodIn wsL_law (wsV RL 79 RX1 yX1_times wsX1_times) := goodIn_app (goodIn_of _ (by decide +kernel)) ggL_law_X1_times
set_option maxRecDepth 20000 in
theorem ggL_law_X0_look : GoodIn wsL_law wsX0_look := goodIn_r _ [240, 18, 241, 242, 243, 2, 244, 81, 82, 83, 84, 17, 245, 246, 247, 248, 249, 250, 251, 252, 257, 258, 259, 260] (by decide +kernel) (by decide +kernel)
set_option maxRecDepth 20000 in
theorem gL_law_X0_look : GoodIn wsL_law (wsV RL 80 RX0 yX0_look wsX0_look) := goodIn_app (goodIn_of _ (by decide +kernel)) ggL_law_X0_look
set_option maxRecDepth 20000 in
theorem ggL_law_X1_look : GoodIn wsL_law wsX1_look := goodIn_r _ [256, 46, 123, 27, 135, 136, 137, 5, 138, 139, 140, 141, 142, 26, 25, 261, 262, 263, 264, 265, 266, 267] (by decide +kernel) (by decide +kernel)
set_option maxRecDepth 20000 in
theorem gL_law_X1_look : GoodIn wsL_law (wsV RL 83 RX1 yX1_look wsX1_look) := goodIn_app (goodIn_of _ (by decide +kernel)) ggL_law_X1_look
theorem dL_law_0 : decode cL_law 0 = .ok (.new 8, 3) := by decide +kernel
theorem dL_law_3 : decode cL_law 3 = .ok (.dup, 1) := by decide +kernel
theorem dL_law_4 : decode cL_law 4 = .ok (.invokespecial 35, 3) := by decide +kernel
theorem dL_law_7 : decode cL_law 7 = .ok (.astore_n 1, 1) := by decide +kernel
theorem dL_law_8 : decode cL_law 8 = .ok (.new 36, 3) := by decide +kernel
theorem dL_law_11 : decode cL_law 11 = .ok (.dup, 1) := by decide +kernel
theorem dL_law_12 : decode cL_law 12 = .ok (.invokespecial 38, 3) := by decide +kernel
theorem dL_law_15 : decode cL_law 15 = .ok (.astore_n 2, 1) := by decide +kernel
theorem dL_law_16 : decode cL_law 16 = .ok (.iconst 1, 1) := by decide +kernel
theorem dL_law_17 : decode cL_law 17 = .ok (.newarray .long, 2) := by decide +kernel
theorem dL_law_19 : decode cL_law 19 = .ok (.astore_n 3, 1) := by decide +kernel
theorem dL_law_20 : decode cL_law 20 = .ok (.iconst 0, 1) := by decide +kernel
theorem dL_law_21 : decode cL_law 21 = .ok (.istore 4, 2) := by decide +kernel
theorem dL_law_23 : decode cL_law 23 = .ok (.iload 4, 2) := by decide +kernel
theorem dL_law_25 : decode cL_law 25 = .ok (.aload_n 0, 1) := by decide +kernel
theorem dL_law_26 : decode cL_law 26 = .ok (.arraylength, 1) := by decide +kernel
theorem dL_law_27 : decode cL_law 27 = .ok (.iconst 5, 1) := by decide +kernel
theorem dL_law_28 : decode cL_law 28 = .ok (.isub, 1) := by decide +kernel
theorem dL_law_29 : decode cL_law 29 = .ok (.if_icmp .gt 608, 3) := by decide +kernel
theorem dL_law_32 : decode cL_law 32 = .ok (.aload_n 0, 1) := by decide +kernel
theorem dL_law_33 : decode cL_law 33 = .ok (.iload 4, 2) := by decide +kernel
theorem dL_law_35 : decode cL_law 35 = .ok (.iaload, 1) := by decide +kernel
theorem dL_law_36 : decode cL_law 36 = .ok (.bipush 15, 2) := by decide +kernel
theorem dL_law_38 : decode cL_law 38 = .ok (.iand, 1) := by decide +kernel
theorem dL_law_39 : decode cL_law 39 = .ok (.tableswitch 592 0 8 #[49, 118, 226, 350, 363, 376, 444, 511, 567], 49) := by decide +kernel
theorem dL_law_88 : decode cL_law 88 = .ok (.aload_n 1, 1) := by decide +kernel
theorem dL_law_89 : decode cL_law 89 = .ok (.aload_n 0, 1) := by decide +kernel
theorem dL_law_90 : decode cL_law 90 = .ok (.iload 4, 2) := by decide +kernel
theorem dL_law_92 : decode cL_law 92 = .ok (.iconst 1, 1) := by decide +kernel
theorem dL_law_93 : decode cL_law 93 = .ok (.iadd, 1) := by decide +kernel
theorem dL_law_94 : decode cL_law 94 = .ok (.iaload, 1) := by decide +kernel
theorem dL_law_95 : decode cL_law 95 = .ok (.aload_n 0, 1) := by decide +kernel
theorem dL_law_96 : decode cL_law 96 = .ok (.iload 4, 2) := by decide +kernel
theorem dL_law_98 : decode cL_law 98 = .ok (.iconst 2, 1) := by decide +kernel
theorem dL_law_99 : decode cL_law 99 = .ok (.iadd, 1) := by decide +kernel
theorem dL_law_100 : decode cL_law 100 = .ok (.iaload, 1) := by decide +kernel
theorem dL_law_101 : decode cL_law 101 = .ok (.i2l, 1) := by decide +kernel
theorem dL_law_102 : decode cL_law 102 = .ok (.bipush 32, 2) := by decide +kernel
theorem dL_law_104 : decode cL_law 104 = .ok (.lshl, 1) := by decide +kernel
theorem dL_law_105 : decode cL_law 105 = .ok (.aload_n 0, 1) := by decide +kernel
theorem dL_law_106 : decode cL_law 106 = .ok (.iload 4, 2) := by decide +kernel
theorem dL_law_108 : decode cL_law 108 = .ok (.iconst 3, 1) := by decide +kernel
theorem dL_law_109 : decode cL_law 109 = .ok (.iadd, 1) := by decide +kernel
theorem dL_law_110 : decode cL_law 110 = .ok (.iaload, 1) := by decide +kernel
theorem dL_law_111 : decode cL_law 111 = .ok (.i2l, 1) := by decide +kernel
theorem dL_law_112 : decode cL_law 112 = .ok (.ldc2_w 39, 3) := by decide +kernel
theorem dL_law_115 : decode cL_law 115 = .ok (.land, 1) := by decide +kernel
theorem dL_law_116 : decode cL_law 116 = .ok (.lor, 1) := by decide +kernel
theorem dL_law_117 : decode cL_law 117 = .ok (.invokevirtual 41, 3) := by decide +kernel
theorem dL_law_120 : decode cL_law 120 = .ok (.aload_n 2, 1) := by decide +kernel
theorem dL_law_121 : decode cL_law 121 = .ok (.aload_n 0, 1) := by decide +kernel
theorem dL_law_122 : decode cL_law 122 = .ok (.iload 4, 2) := by decide +kernel
theorem dL_law_124 : decode cL_law 124 = .ok (.iconst 1, 1) := by decide +kernel
theorem dL_law_125 : decode cL_law 125 = .ok (.iadd, 1) := by decide +kernel
theorem dL_law_126 : decode cL_law 126 = .ok (.iaload, 1) := by decide +kernel
theorem dL_law_127 : decode cL_law 127 = .ok (.aload_n 0, 1) := by decide +kernel
theorem dL_law_128 : decode cL_law 128 = .ok (.iload 4, 2) := by decide +kernel
theorem dL_law_130 : decode cL_law 130 = .ok (.iconst 2, 1) := by decide +kernel
theorem dL_law_131 : decode cL_law 131 = .ok (.iadd, 1) := by decide +kernel
theorem dL_law_132 : decode cL_law 132 = .ok (.iaload, 1) := by decide +kernel
theorem dL_law_133 : decode cL_law 133 = .ok (.i2l, 1) := by decide +kernel
theorem dL_law_134 : decode cL_law 134 = .ok (.bipush 32, 2) := by decide +kernel
theorem dL_law_136 : decode cL_law 136 = .ok (.lshl, 1) := by decide +kernel
theorem dL_law_137 : decode cL_law 137 = .ok (.aload_n 0, 1) := by decide +kernel
theorem dL_law_138 : decode cL_law 138 = .ok (.iload 4, 2) := by decide +kernel
theorem dL_law_140 : decode cL_law 140 = .ok (.iconst 3, 1) := by decide +kernel
theorem dL_law_141 : decode cL_law 141 = .ok (.iadd, 1) := by decide +kernel
theorem dL_law_142 : decode cL_law 142 = .ok (.iaload, 1) := by decide +kernel
theorem dL_law_143 : decode cL_law 143 = .ok (.i2l, 1) := by decide +kernel
theorem dL_law_144 : decode cL_law 144 = .ok (.ldc2_w 39, 3) := by decide +kernel
theorem dL_law_147 : decode cL_law 147 = .ok (.land, 1) := by decide +kernel
theorem dL_law_148 : decode cL_law 148 = .ok (.lor, 1) := by decide +kernel
theorem dL_law_149 : decode cL_law 149 = .ok (.invokevirtual 45, 3) := by decide +kernel
theorem dL_law_152 : decode cL_law 152 = .ok (.if_icmp .eq 479, 3) := by decide +kernel
theorem dL_law_155 : decode cL_law 155 = .ok (.iconst 0, 1) := by decide +kernel
theorem dL_law_156 : decode cL_law 156 = .ok (.ireturn, 1) := by decide +kernel
theorem dL_law_157 : decode cL_law 157 = .ok (.aload_n 1, 1) := by decide +kernel
theorem dL_law_158 : decode cL_law 158 = .ok (.aload_n 0, 1) := by decide +kernel
theorem dL_law_159 : decode cL_law 159 = .ok (.iload 4, 2) := by decide +kernel
theorem dL_law_161 : decode cL_law 161 = .ok (.iconst 1, 1) := by decide +kernel
theorem dL_law_162 : decode cL_law 162 = .ok (.iadd, 1) := by decide +kernel
theorem dL_law_163 : decode cL_law 163 = .ok (.iaload, 1) := by decide +kernel
theorem dL_law_164 : decode cL_law 164 = .ok (.aload_n 0, 1) := by decide +kernel
theorem dL_law_165 : decode cL_law 165 = .ok (.iload 4, 2) := by decide +kernel
theorem dL_law_167 : decode cL_law 167 = .ok (.iconst 2, 1) := by decide +kernel
theorem dL_law_168 : decode cL_law 168 = .ok (.iadd, 1) := by decide +kernel
theorem dL_law_169 : decode cL_law 169 = .ok (.iaload, 1) := by decide +kernel
theorem dL_law_170 : decode cL_law 170 = .ok (.aload_n 0, 1) := by decide +kernel
theorem dL_law_171 : decode cL_law 171 = .ok (.iload 4, 2) := by decide +kernel
theorem dL_law_173 : decode cL_law 173 = .ok (.iconst 3, 1) := by decide +kernel
theorem dL_law_174 : decode cL_law 174 = .ok (.iadd, 1) := by decide +kernel
theorem dL_law_175 : decode cL_law 175 = .ok (.iaload, 1) := by decide +kernel
theorem dL_law_176 : decode cL_law 176 = .ok (.ifCond .eq 7, 3) := by decide +kernel
theorem dL_law_179 : decode cL_law 179 = .ok (.iconst 1, 1) := by decide +kernel
theorem dL_law_180 : decode cL_law 180 = .ok (.goto 4, 3) := by decide +kernel
theorem dL_law_183 : decode cL_law 183 = .ok (.iconst 0, 1) := by decide +kernel
theorem dL_law_184 : decode cL_law 184 = .ok (.aload_n 0, 1) := by decide +kernel
theorem dL_law_185 : decode cL_law 185 = .ok (.iload 4, 2) := by decide +kernel
theorem dL_law_187 : decode cL_law 187 = .ok (.iconst 4, 1) := by decide +kernel
theorem dL_law_188 : decode cL_law 188 = .ok (.iadd, 1) := by decide +kernel
theorem dL_law_189 : decode cL_law 189 = .ok (.iaload, 1) := by decide +kernel
theorem dL_law_190 : decode cL_law 190 = .ok (.aload_n 3, 1) := by decide +kernel
theorem dL_law_191 : decode cL_law 191 = .ok (.invokestatic 46, 3) := by decide +kernel
theorem dL_law_194 : decode cL_law 194 = .ok (.istore 5, 2) := by decide +kernel
theorem dL_law_196 : decode cL_law 196 = .ok (.aload_n 2, 1) := by decide +kernel
theorem dL_law_197 : decode cL_law 197 = .ok (.aload_n 0, 1) := by decide +kernel
theorem dL_law_198 : decode cL_law 198 = .ok (.iload 4, 2) := by decide +kernel
theorem dL_law_200 : decode cL_law 200 = .ok (.iconst 1, 1) := by decide +kernel
theorem dL_law_201 : decode cL_law 201 = .ok (.iadd, 1) := by decide +kernel
theorem dL_law_202 : decode cL_law 202 = .ok (.iaload, 1) := by decide +kernel
theorem dL_law_203 : decode cL_law 203 = .ok (.aload_n 0, 1) := by decide +kernel
theorem dL_law_204 : decode cL_law 204 = .ok (.iload 4, 2) := by decide +kernel
theorem dL_law_206 : decode cL_law 206 = .ok (.iconst 2, 1) := by decide +kernel
theorem dL_law_207 : decode cL_law 207 = .ok (.iadd, 1) := by decide +kernel
theorem dL_law_208 : decode cL_law 208 = .ok (.iaload, 1) := by decide +kernel
theorem dL_law_209 : decode cL_law 209 = .ok (.aload_n 0, 1) := by decide +kernel
theorem dL_law_210 : decode cL_law 210 = .ok (.iload 4, 2) := by decide +kernel
theorem dL_law_212 : decode cL_law 212 = .ok (.iconst 3, 1) := by decide +kernel
theorem dL_law_213 : decode cL_law 213 = .ok (.iadd, 1) := by decide +kernel
theorem dL_law_214 : decode cL_law 214 = .ok (.iaload, 1) := by decide +kernel
theorem dL_law_215 : decode cL_law 215 = .ok (.ifCond .eq 7, 3) := by decide +kernel
theorem dL_law_218 : decode cL_law 218 = .ok (.iconst 1, 1) := by decide +kernel
theorem dL_law_219 : decode cL_law 219 = .ok (.goto 4, 3) := by decide +kernel
theorem dL_law_222 : decode cL_law 222 = .ok (.iconst 0, 1) := by decide +kernel
theorem dL_law_223 : decode cL_law 223 = .ok (.aload_n 0, 1) := by decide +kernel
theorem dL_law_224 : decode cL_law 224 = .ok (.iload 4, 2) := by decide +kernel
theorem dL_law_226 : decode cL_law 226 = .ok (.iconst 4, 1) := by decide +kernel
theorem dL_law_227 : decode cL_law 227 = .ok (.iadd, 1) := by decide +kernel
theorem dL_law_228 : decode cL_law 228 = .ok (.iaload, 1) := by decide +kernel
theorem dL_law_229 : decode cL_law 229 = .ok (.invokevirtual 51, 3) := by decide +kernel
theorem dL_law_232 : decode cL_law 232 = .ok (.istore 6, 2) := by decide +kernel
theorem dL_law_234 : decode cL_law 234 = .ok (.aload_n 2, 1) := by decide +kernel
theorem dL_law_235 : decode cL_law 235 = .ok (.invokevirtual 52, 3) := by decide +kernel
theorem dL_law_238 : decode cL_law 238 = .ok (.iload 5, 2) := by decide +kernel
theorem dL_law_240 : decode cL_law 240 = .ok (.if_icmp .eq 5, 3) := by decide +kernel
theorem dL_law_243 : decode cL_law 243 = .ok (.iconst 0, 1) := by decide +kernel
theorem dL_law_244 : decode cL_law 244 = .ok (.ireturn, 1) := by decide +kernel
theorem dL_law_245 : decode cL_law 245 = .ok (.iload 5, 2) := by decide +kernel
theorem dL_law_247 : decode cL_law 247 = .ok (.ifCond .ne 15, 3) := by decide +kernel
theorem dL_law_250 : decode cL_law 250 = .ok (.aload_n 3, 1) := by decide +kernel
theorem dL_law_251 : decode cL_law 251 = .ok (.iconst 0, 1) := by decide +kernel
theorem dL_law_252 : decode cL_law 252 = .ok (.laload, 1) := by decide +kernel
theorem dL_law_253 : decode cL_law 253 = .ok (.iload 6, 2) := by decide +kernel
theorem dL_law_255 : decode cL_law 255 = .ok (.i2l, 1) := by decide +kernel
theorem dL_law_256 : decode cL_law 256 = .ok (.lcmp, 1) := by decide +kernel
theorem dL_law_257 : decode cL_law 257 = .ok (.ifCond .eq 5, 3) := by decide +kernel
theorem dL_law_260 : decode cL_law 260 = .ok (.iconst 0, 1) := by decide +kernel
theorem dL_law_261 : decode cL_law 261 = .ok (.ireturn, 1) := by decide +kernel
theorem dL_law_262 : decode cL_law 262 = .ok (.goto 369, 3) := by decide +kernel
theorem dL_law_265 : decode cL_law 265 = .ok (.aload_n 1, 1) := by decide +kernel
theorem dL_law_266 : decode cL_law 266 = .ok (.aload_n 0, 1) := by decide +kernel
theorem dL_law_267 : decode cL_law 267 = .ok (.iload 4, 2) := by decide +kernel
theorem dL_law_269 : decode cL_law 269 = .ok (.iconst 1, 1) := by decide +kernel
theorem dL_law_270 : decode cL_law 270 = .ok (.iadd, 1) := by decide +kernel
theorem dL_law_271 : decode cL_law 271 = .ok (.iaload, 1) := by decide +kernel
theorem dL_law_272 : decode cL_law 272 = .ok (.aload_n 0, 1) := by decide +kernel
theorem dL_law_273 : decode cL_law 273 = .ok (.iload 4, 2) := by decide +kernel
theorem dL_law_275 : decode cL_law 275 = .ok (.iconst 2, 1) := by decide +kernel
theorem dL_law_276 : decode cL_law 276 = .ok (.iadd, 1) := by decide +kernel
theorem dL_law_277 : decode cL_law 277 = .ok (.iaload, 1) := by decide +kernel
theorem dL_law_278 : decode cL_law 278 = .ok (.aload_n 0, 1) := by decide +kernel
theorem dL_law_279 : decode cL_law 279 = .ok (.iload 4, 2) := by decide +kernel
theorem dL_law_281 : decode cL_law 281 = .ok (.iconst 3, 1) := by decide +kernel
theorem dL_law_282 : decode cL_law 282 = .ok (.iadd, 1) := by decide +kernel
theorem dL_law_283 : decode cL_law 283 = .ok (.iaload, 1) := by decide +kernel
theorem dL_law_284 : decode cL_law 284 = .ok (.ifCond .eq 7, 3) := by decide +kernel
theorem dL_law_287 : decode cL_law 287 = .ok (.iconst 1, 1) := by decide +kernel
theorem dL_law_288 : decode cL_law 288 = .ok (.goto 4, 3) := by decide +kernel
theorem dL_law_291 : decode cL_law 291 = .ok (.iconst 0, 1) := by decide +kernel
theorem dL_law_292 : decode cL_law 292 = .ok (.aload_n 0, 1) := by decide +kernel
theorem dL_law_293 : decode cL_law 293 = .ok (.iload 4, 2) := by decide +kernel
theorem dL_law_295 : decode cL_law 295 = .ok (.iconst 4, 1) := by decide +kernel
theorem dL_law_296 : decode cL_law 296 = .ok (.iadd, 1) := by decide +kernel
theorem dL_law_297 : decode cL_law 297 = .ok (.iaload, 1) := by decide +kernel
theorem dL_law_298 : decode cL_law 298 = .ok (.ifCond .eq 7, 3) := by decide +kernel
theorem dL_law_301 : decode cL_law 301 = .ok (.iconst 1, 1) := by decide +kernel
theorem dL_law_302 : decode cL_law 302 = .ok (.goto 4, 3) := by decide +kernel
theorem dL_law_305 : decode cL_law 305 = .ok (.iconst 0, 1) := by decide +kernel
theorem dL_law_306 : decode cL_law 306 = .ok (.aload_n 3, 1) := by decide +kernel
theorem dL_law_307 : decode cL_law 307 = .ok (.invokestatic 56, 3) := by decide +kernel
theorem dL_law_310 : decode cL_law 310 = .ok (.istore 5, 2) := by decide +kernel
theorem dL_law_312 : decode cL_law 312 = .ok (.aload_n 2, 1) := by decide +kernel
theorem dL_law_313 : decode cL_law 313 = .ok (.aload_n 0, 1) := by decide +kernel
theorem dL_law_314 : decode cL_law 314 = .ok (.iload 4, 2) := by decide +kernel
theorem dL_law_316 : decode cL_law 316 = .ok (.iconst 1, 1) := by decide +kernel
theorem dL_law_317 : decode cL_law 317 = .ok (.iadd, 1) := by decide +kernel
theorem dL_law_318 : decode cL_law 318 = .ok (.iaload, 1) := by decide +kernel
theorem dL_law_319 : decode cL_law 319 = .ok (.aload_n 0, 1) := by decide +kernel
theorem dL_law_320 : decode cL_law 320 = .ok (.iload 4, 2) := by decide +kernel
theorem dL_law_322 : decode cL_law 322 = .ok (.iconst 2, 1) := by decide +kernel
theorem dL_law_323 : decode cL_law 323 = .ok (.iadd, 1) := by decide +kernel
theorem dL_law_324 : decode cL_law 324 = .ok (.iaload, 1) := by decide +kernel
theorem dL_law_325 : decode cL_law 325 = .ok (.aload_n 0, 1) := by decide +kernel
theorem dL_law_326 : decode cL_law 326 = .ok (.iload 4, 2) := by decide +kernel
theorem dL_law_328 : decode cL_law 328 = .ok (.iconst 3, 1) := by decide +kernel
theorem dL_law_329 : decode cL_law 329 = .ok (.iadd, 1) := by decide +kernel
theorem dL_law_330 : decode cL_law 330 = .ok (.iaload, 1) := by decide +kernel
theorem dL_law_331 : decode cL_law 331 = .ok (.ifCond .eq 7, 3) := by decide +kernel
theorem dL_law_334 : decode cL_law 334 = .ok (.iconst 1, 1) := by decide +kernel
theorem dL_law_335 : decode cL_law 335 = .ok (.goto 4, 3) := by decide +kernel
theorem dL_law_338 : decode cL_law 338 = .ok (.iconst 0, 1) := by decide +kernel
theorem dL_law_339 : decode cL_law 339 = .ok (.aload_n 0, 1) := by decide +kernel
theorem dL_law_340 : decode cL_law 340 = .ok (.iload 4, 2) := by decide +kernel
theorem dL_law_342 : decode cL_law 342 = .ok (.iconst 4, 1) := by decide +kernel
theorem dL_law_343 : decode cL_law 343 = .ok (.iadd, 1) := by decide +kernel
theorem dL_law_344 : decode cL_law 344 = .ok (.iaload, 1) := by decide +kernel
theorem dL_law_345 : decode cL_law 345 = .ok (.ifCond .eq 7, 3) := by decide +kernel
theorem dL_law_348 : decode cL_law 348 = .ok (.iconst 1, 1) := by decide +kernel
theorem dL_law_349 : decode cL_law 349 = .ok (.goto 4, 3) := by decide +kernel
theorem dL_law_352 : decode cL_law 352 = .ok (.iconst 0, 1) := by decide +kernel
theorem dL_law_353 : decode cL_law 353 = .ok (.invokevirtual 59, 3) := by decide +kernel
theorem dL_law_356 : decode cL_law 356 = .ok (.istore 6, 2) := by decide +kernel
theorem dL_law_358 : decode cL_law 358 = .ok (.aload_n 2, 1) := by decide +kernel
theorem dL_law_359 : decode cL_law 359 = .ok (.invokevirtual 52, 3) := by decide +kernel
theorem dL_law_362 : decode cL_law 362 = .ok (.iload 5, 2) := by decide +kernel
theorem dL_law_364 : decode cL_law 364 = .ok (.if_icmp .eq 5, 3) := by decide +kernel
theorem dL_law_367 : decode cL_law 367 = .ok (.iconst 0, 1) := by decide +kernel
theorem dL_law_368 : decode cL_law 368 = .ok (.ireturn, 1) := by decide +kernel
theorem dL_law_369 : decode cL_law 369 = .ok (.iload 5, 2) := by decide +kernel
theorem dL_law_371 : decode cL_law 371 = .ok (.ifCond .ne 15, 3) := by decide +kernel
theorem dL_law_374 : decode cL_law 374 = .ok (.aload_n 3, 1) := by decide +kernel
theorem dL_law_375 : decode cL_law 375 = .ok (.iconst 0, 1) := by decide +kernel
theorem dL_law_376 : decode cL_law 376 = .ok (.laload, 1) := by decide +kernel
theorem dL_law_377 : decode cL_law 377 = .ok (.iload 6, 2) := by decide +kernel
theorem dL_law_379 : decode cL_law 379 = .ok (.i2l, 1) := by decide +kernel
theorem dL_law_380 : decode cL_law 380 = .ok (.lcmp, 1) := by decide +kernel
theorem dL_law_381 : decode cL_law 381 = .ok (.ifCond .eq 5, 3) := by decide +kernel
theorem dL_law_384 : decode cL_law 384 = .ok (.iconst 0, 1) := by decide +kernel
theorem dL_law_385 : decode cL_law 385 = .ok (.ireturn, 1) := by decide +kernel
theorem dL_law_386 : decode cL_law 386 = .ok (.goto 245, 3) := by decide +kernel
theorem dL_law_389 : decode cL_law 389 = .ok (.aload_n 1, 1) := by decide +kernel
theorem dL_law_390 : decode cL_law 390 = .ok (.invokevirtual 60, 3) := by decide +kernel
theorem dL_law_393 : decode cL_law 393 = .ok (.aload_n 2, 1) := by decide +kernel
theorem dL_law_394 : decode cL_law 394 = .ok (.invokevirtual 64, 3) := by decide +kernel
theorem dL_law_397 : decode cL_law 397 = .ok (.if_icmp .eq 234, 3) := by decide +kernel
theorem dL_law_400 : decode cL_law 400 = .ok (.iconst 0, 1) := by decide +kernel
theorem dL_law_401 : decode cL_law 401 = .ok (.ireturn, 1) := by decide +kernel
theorem dL_law_402 : decode cL_law 402 = .ok (.aload_n 1, 1) := by decide +kernel
theorem dL_law_403 : decode cL_law 403 = .ok (.invokevirtual 65, 3) := by decide +kernel
theorem dL_law_406 : decode cL_law 406 = .ok (.aload_n 2, 1) := by decide +kernel
theorem dL_law_407 : decode cL_law 407 = .ok (.invokevirtual 68, 3) := by decide +kernel
theorem dL_law_410 : decode cL_law 410 = .ok (.if_icmp .eq 221, 3) := by decide +kernel
theorem dL_law_413 : decode cL_law 413 = .ok (.iconst 0, 1) := by decide +kernel
theorem dL_law_414 : decode cL_law 414 = .ok (.ireturn, 1) := by decide +kernel
theorem dL_law_415 : decode cL_law 415 = .ok (.aload_n 1, 1) := by decide +kernel
theorem dL_law_416 : decode cL_law 416 = .ok (.aload_n 0, 1) := by decide +kernel
theorem dL_law_417 : decode cL_law 417 = .ok (.iload 4, 2) := by decide +kernel
theorem dL_law_419 : decode cL_law 419 = .ok (.iconst 1, 1) := by decide +kernel
theorem dL_law_420 : decode cL_law 420 = .ok (.iadd, 1) := by decide +kernel
theorem dL_law_421 : decode cL_law 421 = .ok (.iaload, 1) := by decide +kernel
theorem dL_law_422 : decode cL_law 422 = .ok (.aload_n 0, 1) := by decide +kernel
theorem dL_law_423 : decode cL_law 423 = .ok (.iload 4, 2) := by decide +kernel
theorem dL_law_425 : decode cL_law 425 = .ok (.iconst 2, 1) := by decide +kernel
theorem dL_law_426 : decode cL_law 426 = .ok (.iadd, 1) := by decide +kernel
theorem dL_law_427 : decode cL_law 427 = .ok (.iaload, 1) := by decide +kernel
theorem dL_law_428 : decode cL_law 428 = .ok (.aload_n 3, 1) := by decide +kernel
theorem dL_law_429 : decode cL_law 429 = .ok (.invokestatic 69, 3) := by decide +kernel
theorem dL_law_432 : decode cL_law 432 = .ok (.istore 5, 2) := by decide +kernel
theorem dL_law_434 : decode cL_law 434 = .ok (.aload_n 2, 1) := by decide +kernel
theorem dL_law_435 : decode cL_law 435 = .ok (.aload_n 0, 1) := by decide +kernel
theorem dL_law_436 : decode cL_law 436 = .ok (.iload 4, 2) := by decide +kernel
theorem dL_law_438 : decode cL_law 438 = .ok (.iconst 1, 1) := by decide +kernel
theorem dL_law_439 : decode cL_law 439 = .ok (.iadd, 1) := by decide +kernel
theorem dL_law_440 : decode cL_law 440 = .ok (.iaload, 1) := by decide +kernel
theorem dL_law_441 : decode cL_law 441 = .ok (.aload_n 0, 1) := by decide +kernel
theorem dL_law_442 : decode cL_law 442 = .ok (.iload 4, 2) := by decide +kernel
theorem dL_law_444 : decode cL_law 444 = .ok (.iconst 2, 1) := by decide +kernel
theorem dL_law_445 : decode cL_law 445 = .ok (.iadd, 1) := by decide +kernel
theorem dL_law_446 : decode cL_law 446 = .ok (.iaload, 1) := by decide +kernel
theorem dL_law_447 : decode cL_law 447 = .ok (.invokevirtual 72, 3) := by decide +kernel
theorem dL_law_450 : decode cL_law 450 = .ok (.istore 6, 2) := by decide +kernel
theorem dL_law_452 : decode cL_law 452 = .ok (.aload_n 2, 1) := by decide +kernel
theorem dL_law_453 : decode cL_law 453 = .ok (.invokevirtual 52, 3) := by decide +kernel
theorem dL_law_456 : decode cL_law 456 = .ok (.iload 5, 2) := by decide +kernel
theorem dL_law_458 : decode cL_law 458 = .ok (.if_icmp .eq 5, 3) := by decide +kernel
theorem dL_law_461 : decode cL_law 461 = .ok (.iconst 0, 1) := by decide +kernel
theorem dL_law_462 : decode cL_law 462 = .ok (.ireturn, 1) := by decide +kernel
theorem dL_law_463 : decode cL_law 463 = .ok (.iload 5, 2) := by decide +kernel
theorem dL_law_465 : decode cL_law 465 = .ok (.ifCond .ne 15, 3) := by decide +kernel
theorem dL_law_468 : decode cL_law 468 = .ok (.aload_n 3, 1) := by decide +kernel
theorem dL_law_469 : decode cL_law 469 = .ok (.iconst 0, 1) := by decide +kernel
theorem dL_law_470 : decode cL_law 470 = .ok (.laload, 1) := by decide +kernel
theorem dL_law_471 : decode cL_law 471 = .ok (.iload 6, 2) := by decide +kernel
theorem dL_law_473 : decode cL_law 473 = .ok (.i2l, 1) := by decide +kernel
theorem dL_law_474 : decode cL_law 474 = .ok (.lcmp, 1) := by decide +kernel
theorem dL_law_475 : decode cL_law 475 = .ok (.ifCond .eq 5, 3) := by decide +kernel
theorem dL_law_478 : decode cL_law 478 = .ok (.iconst 0, 1) := by decide +kernel
theorem dL_law_479 : decode cL_law 479 = .ok (.ireturn, 1) := by decide +kernel
theorem dL_law_480 : decode cL_law 480 = .ok (.goto 151, 3) := by decide +kernel
theorem dL_law_483 : decode cL_law 483 = .ok (.aload_n 1, 1) := by decide +kernel
theorem dL_law_484 : decode cL_law 484 = .ok (.aload_n 0, 1) := by decide +kernel
theorem dL_law_485 : decode cL_law 485 = .ok (.iload 4, 2) := by decide +kernel
theorem dL_law_487 : decode cL_law 487 = .ok (.iconst 1, 1) := by decide +kernel
theorem dL_law_488 : decode cL_law 488 = .ok (.iadd, 1) := by decide +kernel
theorem dL_law_489 : decode cL_law 489 = .ok (.iaload, 1) := by decide +kernel
theorem dL_law_490 : decode cL_law 490 = .ok (.aload_n 0, 1) := by decide +kernel
theorem dL_law_491 : decode cL_law 491 = .ok (.iload 4, 2) := by decide +kernel
theorem dL_law_493 : decode cL_law 493 = .ok (.iconst 2, 1) := by decide +kernel
theorem dL_law_494 : decode cL_law 494 = .ok (.iadd, 1) := by decide +kernel
theorem dL_law_495 : decode cL_law 495 = .ok (.iaload, 1) := by decide +kernel
theorem dL_law_496 : decode cL_law 496 = .ok (.aload_n 3, 1) := by decide +kernel
theorem dL_law_497 : decode cL_law 497 = .ok (.invokestatic 73, 3) := by decide +kernel
theorem dL_law_500 : decode cL_law 500 = .ok (.istore 5, 2) := by decide +kernel
theorem dL_law_502 : decode cL_law 502 = .ok (.aload_n 2, 1) := by decide +kernel
theorem dL_law_503 : decode cL_law 503 = .ok (.aload_n 0, 1) := by decide +kernel
theorem dL_law_504 : decode cL_law 504 = .ok (.iload 4, 2) := by decide +kernel
theorem dL_law_506 : decode cL_law 506 = .ok (.iconst 1, 1) := by decide +kernel
theorem dL_law_507 : decode cL_law 507 = .ok (.iadd, 1) := by decide +kernel
theorem dL_law_508 : decode cL_law 508 = .ok (.iaload, 1) := by decide +kernel
theorem dL_law_509 : decode cL_law 509 = .ok (.aload_n 0, 1) := by decide +kernel
theorem dL_law_510 : decode cL_law 510 = .ok (.iload 4, 2) := by decide +kernel
theorem dL_law_512 : decode cL_law 512 = .ok (.iconst 2, 1) := by decide +kernel
theorem dL_law_513 : decode cL_law 513 = .ok (.iadd, 1) := by decide +kernel
theorem dL_law_514 : decode cL_law 514 = .ok (.iaload, 1) := by decide +kernel
theorem dL_law_515 : decode cL_law 515 = .ok (.invokevirtual 75, 3) := by decide +kernel
theorem dL_law_518 : decode cL_law 518 = .ok (.lstore 6, 2) := by decide +kernel
theorem dL_law_520 : decode cL_law 520 = .ok (.aload_n 2, 1) := by decide +kernel
theorem dL_law_521 : decode cL_law 521 = .ok (.invokevirtual 52, 3) := by decide +kernel
theorem dL_law_524 : decode cL_law 524 = .ok (.iload 5, 2) := by decide +kernel
theorem dL_law_526 : decode cL_law 526 = .ok (.if_icmp .eq 5, 3) := by decide +kernel
theorem dL_law_529 : decode cL_law 529 = .ok (.iconst 0, 1) := by decide +kernel
theorem dL_law_530 : decode cL_law 530 = .ok (.ireturn, 1) := by decide +kernel
theorem dL_law_531 : decode cL_law 531 = .ok (.iload 5, 2) := by decide +kernel
theorem dL_law_533 : decode cL_law 533 = .ok (.ifCond .ne 14, 3) := by decide +kernel
theorem dL_law_536 : decode cL_law 536 = .ok (.aload_n 3, 1) := by decide +kernel
theorem dL_law_537 : decode cL_law 537 = .ok (.iconst 0, 1) := by decide +kernel
theorem dL_law_538 : decode cL_law 538 = .ok (.laload, 1) := by decide +kernel
theorem dL_law_539 : decode cL_law 539 = .ok (.lload 6, 2) := by decide +kernel
theorem dL_law_541 : decode cL_law 541 = .ok (.lcmp, 1) := by decide +kernel
theorem dL_law_542 : decode cL_law 542 = .ok (.ifCond .eq 5, 3) := by decide +kernel
theorem dL_law_545 : decode cL_law 545 = .ok (.iconst 0, 1) := by decide +kernel
theorem dL_law_546 : decode cL_law 546 = .ok (.ireturn, 1) := by decide +kernel
theorem dL_law_547 : decode cL_law 547 = .ok (.goto 84, 3) := by decide +kernel
theorem dL_law_550 : decode cL_law 550 = .ok (.aload_n 1, 1) := by decide +kernel
theorem dL_law_551 : decode cL_law 551 = .ok (.aload_n 0, 1) := by decide +kernel
theorem dL_law_552 : decode cL_law 552 = .ok (.iload 4, 2) := by decide +kernel
theorem dL_law_554 : decode cL_law 554 = .ok (.iconst 1, 1) := by decide +kernel
theorem dL_law_555 : decode cL_law 555 = .ok (.iadd, 1) := by decide +kernel
theorem dL_law_556 : decode cL_law 556 = .ok (.iaload, 1) := by decide +kernel
theorem dL_law_557 : decode cL_law 557 = .ok (.aload_n 3, 1) := by decide +kernel
theorem dL_law_558 : decode cL_law 558 = .ok (.invokestatic 76, 3) := by decide +kernel
theorem dL_law_561 : decode cL_law 561 = .ok (.istore 5, 2) := by decide +kernel
theorem dL_law_563 : decode cL_law 563 = .ok (.aload_n 2, 1) := by decide +kernel
theorem dL_law_564 : decode cL_law 564 = .ok (.aload_n 0, 1) := by decide +kernel
theorem dL_law_565 : decode cL_law 565 = .ok (.iload 4, 2) := by decide +kernel
theorem dL_law_567 : decode cL_law 567 = .ok (.iconst 1, 1) := by decide +kernel
theorem dL_law_568 : decode cL_law 568 = .ok (.iadd, 1) := by decide +kernel
theorem dL_law_569 : decode cL_law 569 = .ok (.iaload, 1) := by decide +kernel
theorem dL_law_570 : decode cL_law 570 = .ok (.invokevirtual 79, 3) := by decide +kernel
theorem dL_law_573 : decode cL_law 573 = .ok (.istore 6, 2) := by decide +kernel
theorem dL_law_575 : decode cL_law 575 = .ok (.aload_n 2, 1) := by decide +kernel
theorem dL_law_576 : decode cL_law 576 = .ok (.invokevirtual 52, 3) := by decide +kernel
theorem dL_law_579 : decode cL_law 579 = .ok (.iload 5, 2) := by decide +kernel
theorem dL_law_581 : decode cL_law 581 = .ok (.if_icmp .eq 5, 3) := by decide +kernel
theorem dL_law_584 : decode cL_law 584 = .ok (.iconst 0, 1) := by decide +kernel
theorem dL_law_585 : decode cL_law 585 = .ok (.ireturn, 1) := by decide +kernel
theorem dL_law_586 : decode cL_law 586 = .ok (.iload 5, 2) := by decide +kernel
theorem dL_law_588 : decode cL_law 588 = .ok (.ifCond .ne 15, 3) := by decide +kernel
theorem dL_law_591 : decode cL_law 591 = .ok (.aload_n 3, 1) := by decide +kernel
theorem dL_law_592 : decode cL_law 592 = .ok (.iconst 0, 1) := by decide +kernel
theorem dL_law_593 : decode cL_law 593 = .ok (.laload, 1) := by decide +kernel
theorem dL_law_594 : decode cL_law 594 = .ok (.iload 6, 2) := by decide +kernel
theorem dL_law_596 : decode cL_law 596 = .ok (.i2l, 1) := by decide +kernel
theorem dL_law_597 : decode cL_law 597 = .ok (.lcmp, 1) := by decide +kernel
theorem dL_law_598 : decode cL_law 598 = .ok (.ifCond .eq 5, 3) := by decide +kernel
theorem dL_law_601 : decode cL_law 601 = .ok (.iconst 0, 1) := by decide +kernel
theorem dL_law_602 : decode cL_law 602 = .ok (.ireturn, 1) := by decide +kernel
theorem dL_law_603 : decode cL_law 603 = .ok (.goto 28, 3) := by decide +kernel
theorem dL_law_606 : decode cL_law 606 = .ok (.aload_n 1, 1) := by decide +kernel
theorem dL_law_607 : decode cL_law 607 = .ok (.aload_n 0, 1) := by decide +kernel
theorem dL_law_608 : decode cL_law 608 = .ok (.iload 4, 2) := by decide +kernel
theorem dL_law_610 : decode cL_law 610 = .ok (.iconst 1, 1) := by decide +kernel
theorem dL_law_611 : decode cL_law 611 = .ok (.iadd, 1) := by decide +kernel
theorem dL_law_612 : decode cL_law 612 = .ok (.iaload, 1) := by decide +kernel
theorem dL_law_613 : decode cL_law 613 = .ok (.invokevirtual 80, 3) := by decide +kernel
theorem dL_law_616 : decode cL_law 616 = .ok (.aload_n 2, 1) := by decide +kernel
theorem dL_law_617 : decode cL_law 617 = .ok (.aload_n 0, 1) := by decide +kernel
theorem dL_law_618 : decode cL_law 618 = .ok (.iload 4, 2) := by decide +kernel
theorem dL_law_620 : decode cL_law 620 = .ok (.iconst 1, 1) := by decide +kernel
theorem dL_law_621 : decode cL_law 621 = .ok (.iadd, 1) := by decide +kernel
theorem dL_law_622 : decode cL_law 622 = .ok (.iaload, 1) := by decide +kernel
theorem dL_law_623 : decode cL_law 623 = .ok (.invokevirtual 83, 3) := by decide +kernel
theorem dL_law_626 : decode cL_law 626 = .ok (.if_icmp .eq 5, 3) := by decide +kernel
theorem dL_law_629 : decode cL_law 629 = .ok (.iconst 0, 1) := by decide +kernel
theorem dL_law_630 : decode cL_law 630 = .ok (.ireturn, 1) := by decide +kernel
theorem dL_law_631 : decode cL_law 631 = .ok (.iinc 4 5, 3) := by decide +kernel
theorem dL_law_634 : decode cL_law 634 = .ok (.goto (-611), 3) := by decide +kernel
theorem dL_law_637 : decode cL_law 637 = .ok (.iconst 1, 1) := by decide +kernel
theorem dL_law_638 : decode cL_law 638 = .ok (.ireturn, 1) := by decide +kernel
abbrev vwCl : List vw_C := [(RX0, TX0, 4), (RX1, TX1, 7)]
/-! ===== END printed: names ===== -/
end
section
/-! small rows: natural-number indices, calls that only read -/
theorem nz_eq {a : Nat} (h : a < 2 ^ 31) : nI a = 0 ↔ a = 0 := by rw [← nI_0]; exact nI_eq h (by omega)
theorem nz_gt {a : Nat} (h : a < 2 ^ 31) : 0 < nI a ↔ 0 < a := by rw [← nI_0]; exact nI_ltI (by omega) h
theorem nz_le {a : Nat} (h : a < 2 ^ 31) : nI a ≤ 0 ↔ a = 0 := by
  rw [← nI_0, nI_leI h (by omega)]
  omega
section R4
variable {p : Program} {l : Launch} {e : Env} {R : Room} {s : State} {m : MethodId} {args : Array Value} {below : List Frame} {meth : Method} {c : Code} {H : Heap} {locs : List Loc} {cells slots : Nat} {Q : State → Prop}
variable {cc : ByteArray} {pc : Nat} {ls : Array Slot} {rest : List Value} {D : va_G} {cl : List vw_C} {tys : List (ClassId × FieldType)} {ws : va_W} {A : Nat → Prop} {H0 : Heap} {a : Nat}
theorem lv_is {x y : Int32} (h : x = y) (k : W p l e R s m args below meth c H locs cells slots Q (F0 m pc ls (.int y :: rest))) : W p l e R s m args below meth c H locs cells slots Q (F0 m pc ls (.int x :: rest)) := h ▸ k
theorem lv_isl {x y : Int64} (h : x = y) (k : W p l e R s m args below meth c H locs cells slots Q (F0 m pc ls (.long y :: rest))) : W p l e R s m args below meth c H locs cells slots Q (F0 m pc ls (.long x :: rest)) := h ▸ k
theorem ix_iald (hexec : p.tables.exec = Jvm.exec) (hb : c.code = cc) (hK : va_K D cl tys s) (hP : va_P D cl ws H) (q0 t0 : Nat) {cA : ClassId} {n : Nat} {f : Nat → Int32} (ha : ws[q0]? = some (a, .inl (cA, n, .inl f))) (ht : tys[t0]? = some (cA, .int)) {i : Nat} (hi : i < n) (hn : n < 2 ^ 31) (hdg : decode cc pc = .ok (.iaload, 1))
    (kk : W p l e R s m args below meth c H locs cells slots Q (F0 m (pc + 1) ls (.int (f i) :: rest))) : W p l e R s m args below meth c H locs cells slots Q (F0 m pc ls (.int (nI i) :: .ref a :: rest)) :=
  va_iald hexec hb hK hP q0 t0 ha ht (vp_in_nI hi hn) hdg (by rw [nI_clamp (by omega)]; exact kk)
theorem ix_lald (hexec : p.tables.exec = Jvm.exec) (hb : c.code = cc) (hK : va_K D cl tys s) (hP : va_P D cl ws H) (q0 t0 : Nat) {cA : ClassId} {n : Nat} {f : Nat → Int64} (ha : ws[q0]? = some (a, .inl (cA, n, .inr (.inl f)))) (ht : tys[t0]? = some (cA, .long)) {i : Nat} (hi : i < n) (hn : n < 2 ^ 31) (hdg : decode cc pc = .ok (.laload, 1))
    (kk : W p l e R s m args below meth c H locs cells slots Q (F0 m (pc + 1) ls (.long (f i) :: rest))) : W p l e R s m args below meth c H locs cells slots Q (F0 m pc ls (.int (nI i) :: .ref a :: rest)) :=
  va_lald hexec hb hK hP q0 t0 ha ht (vp_in_nI hi hn) hdg (by rw [nI_clamp (by omega)]; exact kk)
theorem ix_iast (hexec : p.tables.exec = Jvm.exec) (hb : c.code = cc) (hK : va_K D cl tys s) (hP : va_P D cl ws H) (hD : va_D A ws) (hS : va_S A H0 H locs) (q0 t0 : Nat) {cA : ClassId} {n : Nat} {f : Nat → Int32} (ha : ws[q0]? = some (a, .inl (cA, n, .inl f))) (ht : tys[t0]? = some (cA, .int)) {i : Nat} {x : Int32} (hi : i < n) (hn : n < 2 ^ 31) (hdg : decode cc pc = .ok (.iastore, 1))
    (kk : ∀ (H1 : Heap) (locs1 : List Loc), va_P D cl (ws.set q0 (a, .inl (cA, n, .inl (upd f i x)))) H1 → va_D A (ws.set q0 (a, .inl (cA, n, .inl (upd f i x)))) → va_S A H0 H1 locs1 → W p l e R s m args below meth c H1 locs1 cells slots Q (F0 m (pc + 1) ls rest)) : W p l e R s m args below meth c H locs cells slots Q (F0 m pc ls (.int x :: .int (nI i) :: .ref a :: rest)) :=
  va_iast hexec hb hK hP hD hS q0 t0 ha ht (vp_in_nI hi hn) hdg (by rw [nI_clamp (by omega)]; exact kk)
theorem ix_last (hexec : p.tables.exec = Jvm.exec) (hb : c.code = cc) (hK : va_K D cl tys s) (hP : va_P D cl ws H) (hD : va_D A ws) (hS : va_S A H0 H locs) (q0 t0 : Nat) {cA : ClassId} {n : Nat} {f : Nat → Int64} (ha : ws[q0]? = some (a, .inl (cA, n, .inr (.inl f)))) (ht : tys[t0]? = some (cA, .long)) {i : Nat} {x : Int64} (hi : i < n) (hn : n < 2 ^ 31) (hdg : decode cc pc = .ok (.lastore, 1))
    (kk : ∀ (H1 : Heap) (locs1 : List Loc), va_P D cl (ws.set q0 (a, .inl (cA, n, .inr (.inl (vp_updL f i x))))) H1 → va_D A (ws.set q0 (a, .inl (cA, n, .inr (.inl (vp_updL f i x))))) → va_S A H0 H1 locs1 → W p l e R s m args below meth c H1 locs1 cells slots Q (F0 m (pc + 1) ls rest)) : W p l e R s m args below meth c H locs cells slots Q (F0 m pc ls (.long x :: .int (nI i) :: .ref a :: rest)) :=
  va_last hexec hb hK hP hD hS q0 t0 ha ht (vp_in_nI hi hn) hdg (by rw [nI_clamp (by omega)]; exact kk)
end R4
/-- the start of a contract that only reads the cells ws -/
def rd (D : va_G) (ws : va_W) (tys : List (ClassId × FieldType)) (av : List Value) : Array Value → State → Prop := va_Pc av (fun U => va_P D vwCl ws U.heap ∧ va_K D vwCl tys U)
theorem rd_blind {D : va_G} {ws : va_W} {tys : List (ClassId × FieldType)} {av : List Value} : FrameBlind (rd D ws tys av) := fun a U g mk q => by
  obtain ⟨q0, qP, qK⟩ := q
  exact ⟨q0, qP, va_K.moved (u := U) (U := U.calling g mk a) (Vm.Alike.refl U.vm) qK⟩
/-- the start of a contract that asks nothing of the heap -/
def pu (av : List Value) : Array Value → State → Prop := va_Pc av (fun _ => True)
theorem pu_blind {av : List Value} : FrameBlind (pu av) := fun _ _ _ _ q => q
def nofree : Addr → Prop := fun _ => False
section R5
variable {p : Program} {l : Launch} {e : Env} {R : Room} {s : State} {m : MethodId} {args : Array Value} {below : List Frame} {meth : Method} {c : Code} {H : Heap} {locs : List Loc} {cells slots : Nat} {Q : State → Prop}
variable {y : MethodName} {bytes cc : ByteArray} {maxL nL n index pc : Nat} {ret : Option FieldType} {ws : List Cond} {rm : Room} {Ts : List Cond} {own C : String} {b : Addr} {As rest st : List Value} {ls : Array Slot} {r : Int32} {rl : Int64}
variable {D : va_G} {cs : va_W} {tys : List (ClassId × FieldType)} {q0 ci : Nat} {T : u_T} {NN : Nat} {fs : List Value}
/-- a call of an instance method that only reads, and answers the int r -/
theorem rd_callV (S : CallFix p m c cc nL s args Ts own) (hM : Met l y ws rm (rd D cs tys (.ref b :: As)) (QcRead r) 0 0 nofree) (cw : CallW R s args own C index y bytes maxL ret ws rm 0 0 n)
    (hK : va_K D vwCl tys s) (hP : va_P D vwCl cs H) (hc : vwCl[ci]? = some (C, T, NN)) (he : cs[q0]? = some (b, .inr (ci, fs))) (hn : As.length = n) (hsize : ls.size = nL) (hst : st = As.reverse ++ .ref b :: rest) (hW : (rest.map fun v => v.category).sum ≤ 8) (hdg : decode cc pc = .ok (.invokevirtual index, 3)) (hf : cells ≤ R.cells ∧ slots ≤ R.slots)
    (kk : W p l e R s m args below meth c H locs cells slots Q (F0 m (pc + 3) ls (.int r :: rest))) : W p l e R s m args below meth c H locs cells slots Q (F0 m pc ls st) := by
  refine W.callR (W.runV (As := As) (rest := rest) S hM cw ⟨rd_blind, va_recv hK hP hc he, fun U hU hW => ⟨rfl, by rw [hU]; exact hP, va_K.moved hW.alike hK⟩⟩ rfl hn hsize hst (lv_room hW) hdg ⟨hf.1, hf.2⟩) ?_
  exact kk
/-- a call of a static method that reads nothing, and answers the int r -/
theorem pu_callS (S : CallFix p m c cc nL s args Ts own) (hM : Met l y ws rm (pu As) (QcRead r) 0 0 nofree) (cw : CallB R s args own index y bytes maxL ret ws rm 0 0 n ∧ (Cond.static y).before args s = true)
    (hn : As.length = n) (hsize : ls.size = nL) (hst : st = As.reverse ++ rest) (hW : (rest.map fun v => v.category).sum ≤ 8) (hdg : decode cc pc = .ok (.invokestatic index, 3)) (hf : cells ≤ R.cells ∧ slots ≤ R.slots)
    (kk : W p l e R s m args below meth c H locs cells slots Q (F0 m (pc + 3) ls (.int r :: rest))) : W p l e R s m args below meth c H locs cells slots Q (F0 m pc ls st) := by
  refine W.callR (W.runS (As := As) (rest := rest) S hM cw ⟨pu_blind, fun U hU hW => ⟨rfl, trivial⟩⟩ rfl hn hsize hst (lv_room hW) hdg ⟨hf.1, hf.2⟩) ?_
  exact kk
theorem rd_ret (hexec : p.tables.exec = Jvm.exec) (hb : c.code = cc) (hr : meth.sig.returnType = some .int) (hlocks : meth.locks = false) {v : Int32} (hv : v = r) (hdg : decode cc pc = .ok (.ireturn, 1)) : W p l e R s m args below meth c s.heap [] 0 0 (MQ below (QcRead r) args s 0 0 nofree) (F0 m pc ls [.int v]) :=
  W.iret hexec hb hr (fun t ht hW => ⟨by rw [hv], ht⟩) (fun q hq => nomatch hq) hdg hlocks
theorem rd_retz (hexec : p.tables.exec = Jvm.exec) (hb : c.code = cc) (hr : meth.sig.returnType = some .boolean) (hlocks : meth.locks = false) {v : Int32} (hn : narrow .boolean (.int v) = .int v) (hv : v = r) (hdg : decode cc pc = .ok (.ireturn, 1)) : W p l e R s m args below meth c s.heap [] 0 0 (MQ below (QcRead r) args s 0 0 nofree) (F0 m pc ls [.int v]) :=
  W.zret hexec hb hr hn (fun t ht hW => ⟨by rw [hv], ht⟩) (fun q hq => nomatch hq) hdg hlocks
end R5
end
section
/-! numbers: the sixteen men of a long (uN and its rows are pasted from the starting text BITS.to-paste) -/
def uN (x : Int64) : Nat := x.toUInt64.toNat
theorem uN_lt (x : Int64) : uN x < 18446744073709551616 := x.toUInt64.toNat_lt
theorem uN_inj {x y : Int64} (h : uN x = uN y) : x = y := congrArg UInt64.toInt64 (UInt64.toNat_inj.mp h)
theorem uN_shr (x : Int64) (s : UInt64) : uN (x.toUInt64 >>> s).toInt64 = uN x / 2 ^ (s.toNat % 64) := by
  show (x.toUInt64 >>> s).toNat = _
  rw [UInt64.toNat_shiftRight, Nat.shiftRight_eq_div_pow]
  rfl
theorem uN_sk (x : Int64) {k : Nat} (hk : k < 64) : uN (x.toUInt64 >>> ((nI k).toInt64.toUInt64 &&& Int64.toUInt64 63)).toInt64 = uN x / 2 ^ k := by
  have h : ((nI k).toInt64.toUInt64 &&& Int64.toUInt64 63).toNat % 64 = k := by
    rw [nI_l (by omega), UInt64.toNat_and]
    have e : (lN k).toUInt64.toNat = k % 2 ^ 64 := rfl
    have e2 : (Int64.toUInt64 63).toNat = 2 ^ 6 - 1 := by decide
    rw [e, e2, Nat.and_two_pow_sub_one_eq_mod]
    omega
  rw [uN_shr, h]
/-! ===== unsigned comparison by xor with the least ===== -/
/-- the man on square k of a part -/
def nib (g : Int64) (k : Nat) : Nat := uN g / 2 ^ (60 - 4 * k) % 16
theorem nib_lt (g : Int64) (k : Nat) : nib g k < 16 := Nat.mod_lt _ (by decide)
theorem uN_bv (x : Int64) : x.toBitVec.toNat = uN x := rfl
theorem nib_u (g : Int64) {k : Nat} (hk : k < 16) : ((g.toUInt64 >>> ((nI (4 * (15 - k))).toInt64.toUInt64 &&& Int64.toUInt64 63)).toInt64).toInt32 &&& nI 15 = nI (nib g k) := by
  rw [pk_and _ 4 (by decide)]
  have h1 := uN_sk g (k := 4 * (15 - k)) (by omega)
  generalize (g.toUInt64 >>> ((nI (4 * (15 - k))).toInt64.toUInt64 &&& Int64.toUInt64 63)).toInt64 = y at h1
  have h2 : y.toInt32.toBitVec.toNat = uN y % 2 ^ 32 := by
    show (y.toBitVec.signExtend 32).toNat = _
    rw [BitVec.signExtend_eq_setWidth_of_le _ (by decide), BitVec.toNat_setWidth]
    rfl
  have h3 : 4 * (15 - k) = 60 - 4 * k := by omega
  rw [h2, h1, h3]
  unfold nib
  congr 1
  generalize uN g / 2 ^ (60 - 4 * k) = z
  omega
theorem nib_s (g : Int64) {s : Nat} (hs : s ≤ 60) : (g >>> ((nI s).toInt64 &&& 63)) &&& 15 = lN (uN g / 2 ^ s % 16) := by
  have hk : (((nI s).toInt64 &&& 63).toBitVec.smod 64).toNat = s := by
    have : ∀ z, z < 64 → (((nI z).toInt64 &&& 63).toBitVec.smod 64).toNat = z := by decide +kernel
    exact this s (by omega)
  apply uN_inj
  show ((g >>> ((nI s).toInt64 &&& 63)) &&& 15).toBitVec.toNat = (lN (uN g / 2 ^ s % 16)).toBitVec.toNat
  have e1 : ((g >>> ((nI s).toInt64 &&& 63)) &&& 15).toBitVec = (g.toBitVec >>> s) &&& 15#64 := by
    show (g.toBitVec.sshiftRight (((nI s).toInt64 &&& 63).toBitVec.smod 64).toNat) &&& 15#64 = _
    rw [hk]
    apply BitVec.eq_of_getLsbD_eq
    intro i hi
    rw [BitVec.getLsbD_and, BitVec.getLsbD_and, BitVec.getLsbD_sshiftRight, BitVec.getLsbD_ushiftRight]
    by_cases h4 : i < 4
    · have h5 : s + i < 64 := by omega
      simp [h5, Nat.not_le.mpr hi]
    · have h6 : (15#64).getLsbD i = false := by
        have : ∀ j, j < 64 → 4 ≤ j → (15#64).getLsbD j = false := by decide +kernel
        exact this i hi (by omega)
      rw [h6, Bool.and_false, Bool.and_false]
  rw [e1, BitVec.toNat_and, BitVec.toNat_ushiftRight, Nat.shiftRight_eq_div_pow]
  have e2 : (15#64).toNat = 2 ^ 4 - 1 := by decide
  rw [e2, Nat.and_two_pow_sub_one_eq_mod]
  show uN g / 2 ^ s % 2 ^ 4 = (BitVec.ofNat 64 (uN g / 2 ^ s % 16)).toNat
  rw [BitVec.toNat_ofNat]
  generalize uN g / 2 ^ s = z
  omega
end
section
/-! what the class's own methods answer, as functions of its cells: G the squares given, T the squares told, F the facts, n the positions -/
def ga_isPart (p : Int32) : Int32 := if p < 0 then nI 0 else if nI 4 ≤ p then nI 0 else nI 1
def ga_isMoves (p : Int32) : Int32 := if p < 0 then nI 0 else if nI 300 < p then nI 0 else nI 1
def ga_isClock (p : Int32) : Int32 := if p < 0 then nI 0 else if nI 1000 < p then nI 0 else nI 1
def ga_isState (p : Int32) : Int32 := if p < 0 then nI 0 else if p < nI 512 then (if p >>> (nI 5 &&& 31) ≤ nI 7 then nI 1 else if p >>> (nI 5 &&& 31) = nI 15 then nI 1 else nI 0) else nI 0
noncomputable def ga_areMen (g : Int64) : Int32 := @ite Int32 (∀ k, k < 16 → nib g k ≤ 12) (Classical.propDecidable _) (nI 1) (nI 0)
def ga_isPos (n : Nat) (i : Int32) : Int32 := if i < 0 then nI 0 else if nI n ≤ i then nI 0 else nI 1
def ga_takes (F : Nat → Int32) (n : Nat) : Int32 := if n = 0 then nI 0 else if n < 640 then (if F ((n - 1) * 8 + 2) < nI 1 then nI 1 else if F ((n - 1) * 8 + 2) ≤ nI 5 then nI 0 else nI 1) else nI 0
noncomputable def ga_has (G T : Nat → Int64) (a : Nat) : Int32 := @ite Int32 (∀ p, p < 4 → T (a * 4 + p) = G p) (Classical.propDecidable _) (nI 1) (nI 0)
noncomputable def ga_last (G T : Nat → Int64) (F : Nat → Int32) (st : Int32) : Nat → Int32
  | 0 => -1
  | k + 1 => if F (k * 8 + 5) = st then (if ga_has G T k = 0 then ga_last G T F st k else nI k) else ga_last G T F st k
def ga_cup (F : Nat → Int32) (n : Nat) (i : Int32) : Int32 := if ga_isPos n i = 0 then nI 0 else F (i.toNatClampNeg * 8 + 0)
def ga_judge (mv ck dd ct cl : Int32) : Int32 := if mv = 0 then (if ck = 0 then nI 2 else nI 1) else if dd = 0 then (if ct < nI 5 then (if cl < nI 150 then (if ct < nI 3 then (if cl < nI 100 then nI 0 else nI 7) else (if cl < nI 100 then nI 6 else nI 8)) else nI 5) else nI 4) else nI 3
def sqm (G : Nat → Int64) (k : Nat) : Nat := nib (G (k / 16)) (k % 16)
def ga_cnt (G : Nat → Int64) (man : Int32) : Nat → Nat
  | 0 => 0
  | k + 1 => ga_cnt G man k + (if nI (sqm G k) = man then 1 else 0)
def ga_first (G : Nat → Int64) (man : Int32) : Nat → Int32
  | 0 => -1
  | k + 1 => if nI (sqm G (63 - k)) = man then nI (63 - k) else ga_first G man k
def ga_col (q : Int32) : Int32 := ((q &&& nI 7) + (q >>> (nI 3 &&& 31))) &&& nI 1
def ga_dead (G : Nat → Int64) (men : Int32) : Int32 :=
  if ga_cnt G (nI 6) 64 = 1 then (if ga_cnt G (nI 12) 64 = 1 then (if men = nI 2 then nI 1 else if men = nI 3 then
    (if ((ga_cnt G (nI 3) 64 + ga_cnt G (nI 9) 64) + ga_cnt G (nI 2) 64) + ga_cnt G (nI 8) 64 = 1 then nI 1 else nI 0)
    else if men = nI 4 then (if ga_cnt G (nI 3) 64 = 1 then (if ga_cnt G (nI 9) 64 = 1 then (if ga_col (ga_first G (nI 3) 64) = ga_col (ga_first G (nI 9) 64) then nI 1 else nI 0) else nI 0) else nI 0) else nI 0) else nI 0) else nI 0
def ga_diff (F : Nat → Int32) : Nat → Nat
  | 0 => 0
  | k + 1 => ga_diff F k + (if F (k * 8 + 4) = -1 then 1 else 0)
def ga_great (F : Nat → Int32) (b : Nat) : Nat → Int32
  | 0 => nI 0
  | k + 1 => if ga_great F b k < F (k * 8 + b) then F (k * 8 + b) else ga_great F b k
theorem ga_cnt_le (G : Nat → Int64) (man : Int32) : ∀ k, ga_cnt G man k ≤ k
  | 0 => Nat.le_refl 0
  | k + 1 => by
    have := ga_cnt_le G man k
    unfold ga_cnt
    split <;> omega
theorem ga_diff_le (F : Nat → Int32) : ∀ k, ga_diff F k ≤ k
  | 0 => Nat.le_refl 0
  | k + 1 => by
    have := ga_diff_le F k
    unfold ga_diff
    split <;> omega
/-- the class's cells -/
abbrev wX (cI cJ : ClassId) (x g t f : Nat) (G T : Nat → Int64) (F : Nat → Int32) (n : Nat) : va_W := [(x, .inr (0, [.ref g, .ref t, .ref f, .int (nI n)])), (g, .inl (cJ, 4, .inr (.inl G))), (t, .inl (cJ, 2560, .inr (.inl T))), (f, .inl (cI, 5120, .inl F))]
abbrev tK (cI cJ : ClassId) : List (ClassId × FieldType) := [(cJ, .long), (cI, .int)]
/-- the reference's cells -/
abbrev wM (cI : ClassId) (y a b c d v : Nat) (th : Int32) (N : Nat → Int32) (n : Nat) (M S C V : Nat → Int32) : va_W := [(y, .inr (1, [.int th, .ref a, .int (nI n), .ref b, .ref c, .ref d, .ref v])), (a, .inl (cI, 64, .inl N)), (b, .inl (cI, 40960, .inl M)), (c, .inl (cI, 640, .inl S)), (d, .inl (cI, 640, .inl C)), (v, .inl (cI, 640, .inl V))]
abbrev tM (cI : ClassId) : List (ClassId × FieldType) := [(cI, .int)]
theorem ga_isPos_nat {n : Nat} (hn : n ≤ 640) {i : Int32} (h : ¬ ga_isPos n i = 0) : ∃ a : Nat, a < n ∧ i = nI a := by
  unfold ga_isPos at h
  by_cases h1 : i < 0
  · rw [if_pos h1] at h; exact absurd nI_0 h
  · rw [if_neg h1] at h
    by_cases h2 : nI n ≤ i
    · rw [if_pos h2] at h; exact absurd nI_0 h
    · obtain ⟨j, hj, rfl⟩ := nI_of h1
      exact ⟨j, by
        rcases Nat.lt_or_ge j n with q | q
        · exact q
        · exact absurd (nI_le q hj) h2, rfl⟩
theorem ga_isPart_nat {i : Int32} (h : ¬ ga_isPart i = 0) : ∃ a : Nat, a < 4 ∧ i = nI a := by
  unfold ga_isPart at h
  by_cases h1 : i < 0
  · rw [if_pos h1] at h; exact absurd nI_0 h
  · rw [if_neg h1] at h
    by_cases h2 : nI 4 ≤ i
    · rw [if_pos h2] at h; exact absurd nI_0 h
    · obtain ⟨j, hj, rfl⟩ := nI_of h1
      exact ⟨j, by
        rcases Nat.lt_or_ge j 4 with q | q
        · exact q
        · exact absurd (nI_le q hj) h2, rfl⟩
theorem ga_last_nat (G T : Nat → Int64) (F : Nat → Int32) (st : Int32) : ∀ k : Nat, ga_last G T F st k = -1 ∨ ∃ a : Nat, a < k ∧ ga_last G T F st k = nI a
  | 0 => Or.inl rfl
  | k + 1 => by
    have ih : ga_last G T F st k = -1 ∨ ∃ a : Nat, a < k + 1 ∧ ga_last G T F st k = nI a := by
      rcases ga_last_nat G T F st k with h | ⟨a, h1, h2⟩
      · exact Or.inl h
      · exact Or.inr ⟨a, by omega, h2⟩
    by_cases h1 : F (k * 8 + 5) = st
    · by_cases h2 : ga_has G T k = 0
      · rw [ga_last, if_pos h1, if_pos h2]; exact ih
      · rw [ga_last, if_pos h1, if_neg h2]; exact Or.inr ⟨k, by omega, rfl⟩
    · rw [ga_last, if_neg h1]; exact ih
noncomputable def ga_sqR (p : Int32) (m : Int64) : Int32 := if ga_isPart p = 0 then nI 0 else if ga_areMen m = 0 then nI 0 else nI 1
noncomputable def ga_sqG (G : Nat → Int64) (p : Int32) (m : Int64) : Nat → Int64 := if ga_isPart p = 0 then G else if ga_areMen m = 0 then G else vp_updL G p.toNatClampNeg m
noncomputable def ap_be (G T : Nat → Int64) (F : Nat → Int32) (n : Nat) (st : Int32) : Int32 := ga_last G T F st n
noncomputable def ap_ct (G T : Nat → Int64) (F : Nat → Int32) (n : Nat) (st : Int32) : Int32 := ga_cup F n (ap_be G T F n st) + nI 1
def ap_mn (G : Nat → Int64) : Nat := 64 - ga_cnt G (nI 0) 64
noncomputable def ap_vd (G T : Nat → Int64) (F : Nat → Int32) (n : Nat) (st mv ck cl : Int32) : Int32 := ga_judge mv ck (ga_dead G (nI (ap_mn G))) (ap_ct G T F n st) cl
noncomputable def ap_F3 (G T : Nat → Int64) (F : Nat → Int32) (n : Nat) (st mv ck cl : Int32) : Nat → Int32 := upd (upd (upd F (n * 8 + 0) (ap_ct G T F n st)) (n * 8 + 1) cl) (n * 8 + 2) (ap_vd G T F n st mv ck cl)
noncomputable def ap_fi (G T : Nat → Int64) (F : Nat → Int32) (n : Nat) (st mv ck cl : Int32) : Int32 := if ap_be G T F n st = -1 then nI n else ap_F3 G T F n st mv ck cl ((ap_be G T F n st).toNatClampNeg * 8 + 3)
noncomputable def ap_F (G T : Nat → Int64) (F : Nat → Int32) (n : Nat) (st mv ck cl : Int32) : Nat → Int32 := upd (upd (upd (upd (upd (ap_F3 G T F n st mv ck cl) (n * 8 + 3) (ap_fi G T F n st mv ck cl)) (n * 8 + 4) (ap_be G T F n st)) (n * 8 + 5) st) (n * 8 + 6) (if ga_dead G (nI (ap_mn G)) = 0 then nI 0 else nI 1)) (n * 8 + 7) (nI (ap_mn G))
def ap_T (G T : Nat → Int64) (n : Nat) : Nat → Int64 := va_cpy G T 0 (n * 4) 4
end
section
set_option maxHeartbeats 4000000 in
set_option maxRecDepth 100000 in
theorem k_X0_isPart (l : Launch) (a : Int32)  : Met l yX0_isPart wsX0_isPart ({ frames := 0, cells := 0, slots := 0, locals := 0 } : Room) (pu [.int a]) (QcRead (ga_isPart a)) 0 0 nofree := by
  refine Met.ofW (cc := cX0_isPart) (maxL := 1) (ret := (some .boolean)) (by decide) rfl ?_
  intro p e s m args below meth c s₁ B hml hv
  obtain ⟨rfl, -⟩ := hv
  have hx := B.exec
  have hb := B.bytes
  have hr := B.returns
  have hts := atoms_spec (ws := wsX0_isPart) B.pre
  have hown : s.vm.findClass RX0 = some m.cls := findClass_of_methodNamed B.named
  have hlocks := B.notSynchronized
  have hl := lv_entry ([.int a]) (n := 1) (Nat.le_of_ble_eq_true rfl)
  rw [lg_entry_eq]
  generalize (lg_sl ([.int a]) ++ List.replicate (1 - (lg_sl ([.int a])).length) Slot.unset).toArray = ls at hl ⊢
  replace hl : lv_has ls 1 [(0, .int a)] := hl
  refine lv_iload_n hx hb dX0_isPart_0 rfl (lv_at hl 0 rfl) ?_
  refine lv_if_lt (tgt := 13) hx hb dX0_isPart_1 (by decide) (fun c_1 => ?_) (fun c_1 => ?_)
  · refine lv_iconst (v := nI 0) hx hb dX0_isPart_13 (by decide) ?_
    exact rd_retz hx hb hr hlocks rfl (by rw [ga_isPart, if_pos c_1]) dX0_isPart_14
  · refine lv_iload_n hx hb dX0_isPart_4 rfl (lv_at hl 0 rfl) ?_
    refine lv_iconst (v := nI 4) hx hb dX0_isPart_5 (by decide) ?_
    refine lv_icmp_ge (tgt := 13) hx hb dX0_isPart_6 (by decide) (fun c_2 => ?_) (fun c_2 => ?_)
    · refine lv_iconst (v := nI 0) hx hb dX0_isPart_13 (by decide) ?_
      exact rd_retz hx hb hr hlocks rfl (by rw [ga_isPart, if_neg c_1, if_pos c_2]) dX0_isPart_14
    · refine lv_iconst (v := nI 1) hx hb dX0_isPart_9 (by decide) ?_
      refine lv_goto (tgt := 14) hx hb dX0_isPart_10 (by decide) ?_
      exact rd_retz hx hb hr hlocks rfl (by rw [ga_isPart, if_neg c_1, if_neg c_2]) dX0_isPart_14
set_option maxHeartbeats 4000000 in
set_option maxRecDepth 100000 in
theorem k_X0_isMoves (l : Launch) (a : Int32)  : Met l yX0_isMoves wsX0_isMoves ({ frames := 0, cells := 0, slots := 0, locals := 0 } : Room) (pu [.int a]) (QcRead (ga_isMoves a)) 0 0 nofree := by
  refine Met.ofW (cc := cX0_isMoves) (maxL := 1) (ret := (some .boolean)) (by decide) rfl ?_
  intro p e s m args below meth c s₁ B hml hv
  obtain ⟨rfl, -⟩ := hv
  have hx := B.exec
  have hb := B.bytes
  have hr := B.returns
  have hts := atoms_spec (ws := wsX0_isMoves) B.pre
  have hown : s.vm.findClass RX0 = some m.cls := findClass_of_methodNamed B.named
  have hlocks := B.notSynchronized
  have hl := lv_entry ([.int a]) (n := 1) (Nat.le_of_ble_eq_true rfl)
  rw [lg_entry_eq]
  generalize (lg_sl ([.int a]) ++ List.replicate (1 - (lg_sl ([.int a])).length) Slot.unset).toArray = ls at hl ⊢
  replace hl : lv_has ls 1 [(0, .int a)] := hl
  refine lv_iload_n hx hb dX0_isMoves_0 rfl (lv_at hl 0 rfl) ?_
  refine lv_if_lt (tgt := 15) hx hb dX0_isMoves_1 (by decide) (fun c_1 => ?_) (fun c_1 => ?_)
  · refine lv_iconst (v := nI 0) hx hb dX0_isMoves_15 (by decide) ?_
    exact rd_retz hx hb hr hlocks rfl (by rw [ga_isMoves, if_pos c_1]) dX0_isMoves_16
  · refine lv_iload_n hx hb dX0_isMoves_4 rfl (lv_at hl 0 rfl) ?_
    refine lv_sipush (v := nI 300) hx hb dX0_isMoves_5 (by decide) ?_
    refine lv_icmp_gt (tgt := 15) hx hb dX0_isMoves_8 (by decide) (fun c_2 => ?_) (fun c_2 => ?_)
    · refine lv_iconst (v := nI 0) hx hb dX0_isMoves_15 (by decide) ?_
      exact rd_retz hx hb hr hlocks rfl (by rw [ga_isMoves, if_neg c_1, if_pos c_2]) dX0_isMoves_16
    · refine lv_iconst (v := nI 1) hx hb dX0_isMoves_11 (by decide) ?_
      refine lv_goto (tgt := 16) hx hb dX0_isMoves_12 (by decide) ?_
      exact rd_retz hx hb hr hlocks rfl (by rw [ga_isMoves, if_neg c_1, if_neg c_2]) dX0_isMoves_16
set_option maxHeartbeats 4000000 in
set_option maxRecDepth 100000 in
theorem k_X0_isClock (l : Launch) (a : Int32)  : Met l yX0_isClock wsX0_isClock ({ frames := 0, cells := 0, slots := 0, locals := 0 } : Room) (pu [.int a]) (QcRead (ga_isClock a)) 0 0 nofree := by
  refine Met.ofW (cc := cX0_isClock) (maxL := 1) (ret := (some .boolean)) (by decide) rfl ?_
  intro p e s m args below meth c s₁ B hml hv
  obtain ⟨rfl, -⟩ := hv
  have hx := B.exec
  have hb := B.bytes
  have hr := B.returns
  have hts := atoms_spec (ws := wsX0_isClock) B.pre
  have hown : s.vm.findClass RX0 = some m.cls := findClass_of_methodNamed B.named
  have hlocks := B.notSynchronized
  have hl := lv_entry ([.int a]) (n := 1) (Nat.le_of_ble_eq_true rfl)
  rw [lg_entry_eq]
  generalize (lg_sl ([.int a]) ++ List.replicate (1 - (lg_sl ([.int a])).length) Slot.unset).toArray = ls at hl ⊢
  replace hl : lv_has ls 1 [(0, .int a)] := hl
  refine lv_iload_n hx hb dX0_isClock_0 rfl (lv_at hl 0 rfl) ?_
  refine lv_if_lt (tgt := 15) hx hb dX0_isClock_1 (by decide) (fun c_1 => ?_) (fun c_1 => ?_)
  · refine lv_iconst (v := nI 0) hx hb dX0_isClock_15 (by decide) ?_
    exact rd_retz hx hb hr hlocks rfl (by rw [ga_isClock, if_pos c_1]) dX0_isClock_16
  · refine lv_iload_n hx hb dX0_isClock_4 rfl (lv_at hl 0 rfl) ?_
    refine lv_sipush (v := nI 1000) hx hb dX0_isClock_5 (by decide) ?_
    refine lv_icmp_gt (tgt := 15) hx hb dX0_isClock_8 (by decide) (fun c_2 => ?_) (fun c_2 => ?_)
    · refine lv_iconst (v := nI 0) hx hb dX0_isClock_15 (by decide) ?_
      exact rd_retz hx hb hr hlocks rfl (by rw [ga_isClock, if_neg c_1, if_pos c_2]) dX0_isClock_16
    · refine lv_iconst (v := nI 1) hx hb dX0_isClock_11 (by decide) ?_
      refine lv_goto (tgt := 16) hx hb dX0_isClock_12 (by decide) ?_
      exact rd_retz hx hb hr hlocks rfl (by rw [ga_isClock, if_neg c_1, if_neg c_2]) dX0_isClock_16
set_option maxHeartbeats 4000000 in
set_option maxRecDepth 100000 in
theorem k_X0_isState (l : Launch) (a : Int32)  : Met l yX0_isState wsX0_isState ({ frames := 0, cells := 0, slots := 0, locals := 0 } : Room) (pu [.int a]) (QcRead (ga_isState a)) 0 0 nofree := by
  refine Met.ofW (cc := cX0_isState) (maxL := 2) (ret := (some .boolean)) (by decide) rfl ?_
  intro p e s m args below meth c s₁ B hml hv
  obtain ⟨rfl, -⟩ := hv
  have hx := B.exec
  have hb := B.bytes
  have hr := B.returns
  have hts := atoms_spec (ws := wsX0_isState) B.pre
  have hown : s.vm.findClass RX0 = some m.cls := findClass_of_methodNamed B.named
  have hlocks := B.notSynchronized
  have hl := lv_entry ([.int a]) (n := 2) (Nat.le_of_ble_eq_true rfl)
  rw [lg_entry_eq]
  generalize (lg_sl ([.int a]) ++ List.replicate (2 - (lg_sl ([.int a])).length) Slot.unset).toArray = ls at hl ⊢
  replace hl : lv_has ls 2 [(0, .int a)] := hl
  refine lv_iload_n hx hb dX0_isState_0 rfl (lv_at hl 0 rfl) ?_
  refine lv_if_lt (tgt := 11) hx hb dX0_isState_1 (by decide) (fun c_1 => ?_) (fun c_1 => ?_)
  · refine lv_iconst (v := nI 0) hx hb dX0_isState_11 (by decide) ?_
    exact rd_retz hx hb hr hlocks rfl (by rw [ga_isState, if_pos c_1]) dX0_isState_12
  · refine lv_iload_n hx hb dX0_isState_4 rfl (lv_at hl 0 rfl) ?_
    refine lv_sipush (v := nI 512) hx hb dX0_isState_5 (by decide) ?_
    refine lv_icmp_lt (tgt := 13) hx hb dX0_isState_8 (by decide) (fun c_2 => ?_) (fun c_2 => ?_)
    · refine lv_iload_n hx hb dX0_isState_13 rfl (lv_at hl 0 rfl) ?_
      refine lv_iconst (v := nI 5) hx hb dX0_isState_14 (by decide) ?_
      refine lv_ishr hx hb dX0_isState_15 ?_
      refine lv_istore_n (lv' := [(1, .int (a >>> ((nI 5) &&& 31))), (0, .int a)]) hx hb dX0_isState_16 rfl hl (by decide) rfl (fun ls hl => ?_)
      refine lv_iload_n hx hb dX0_isState_17 rfl (lv_at hl 0 rfl) ?_
      refine lv_bipush (v := nI 7) hx hb dX0_isState_18 (by decide) ?_
      refine lv_icmp_le (tgt := 29) hx hb dX0_isState_20 (by decide) (fun c_3 => ?_) (fun c_3 => ?_)
      · refine lv_iconst (v := nI 1) hx hb dX0_isState_29 (by decide) ?_
        refine lv_goto (tgt := 34) hx hb dX0_isState_30 (by decide) ?_
        exact rd_retz hx hb hr hlocks rfl (by rw [ga_isState, if_neg c_1, if_pos c_2, if_pos c_3]) dX0_isState_34
      · refine lv_iload_n hx hb dX0_isState_23 rfl (lv_at hl 0 rfl) ?_
        refine lv_bipush (v := nI 15) hx hb dX0_isState_24 (by decide) ?_
        refine lv_icmp_ne (tgt := 33) hx hb dX0_isState_26 (by decide) (fun c_4 => ?_) (fun c_4 => ?_)
        · refine lv_iconst (v := nI 0) hx hb dX0_isState_33 (by decide) ?_
          exact rd_retz hx hb hr hlocks rfl (by rw [ga_isState, if_neg c_1, if_pos c_2, if_neg c_3, if_neg c_4]) dX0_isState_34
        · refine lv_iconst (v := nI 1) hx hb dX0_isState_29 (by decide) ?_
          refine lv_goto (tgt := 34) hx hb dX0_isState_30 (by decide) ?_
          exact rd_retz hx hb hr hlocks rfl (by rw [ga_isState, if_neg c_1, if_pos c_2, if_neg c_3, if_pos c_4]) dX0_isState_34
    · refine lv_iconst (v := nI 0) hx hb dX0_isState_11 (by decide) ?_
      exact rd_retz hx hb hr hlocks rfl (by rw [ga_isState, if_neg c_1, if_neg c_2]) dX0_isState_12
set_option maxHeartbeats 4000000 in
set_option maxRecDepth 100000 in
theorem k_X0_manOfPart (l : Launch) (g : Int64) (k : Nat) (hk : k < 16) : Met l yX0_manOfPart wsX0_manOfPart ({ frames := 0, cells := 0, slots := 0, locals := 0 } : Room) (pu [.long g, .int (nI k)]) (QcRead (nI (nib g k))) 0 0 nofree := by
  refine Met.ofW (cc := cX0_manOfPart) (maxL := 4) (ret := (some .int)) (by decide) rfl ?_
  intro p e s m args below meth c s₁ B hml hv
  obtain ⟨rfl, -⟩ := hv
  have hx := B.exec
  have hb := B.bytes
  have hr := B.returns
  have hts := atoms_spec (ws := wsX0_manOfPart) B.pre
  have hown : s.vm.findClass RX0 = some m.cls := findClass_of_methodNamed B.named
  have hlocks := B.notSynchronized
  have hl := lv_entry ([.long g, .int (nI k)]) (n := 4) (Nat.le_of_ble_eq_true rfl)
  rw [lg_entry_eq]
  generalize (lg_sl ([.long g, .int (nI k)]) ++ List.replicate (4 - (lg_sl ([.long g, .int (nI k)])).length) Slot.unset).toArray = ls at hl ⊢
  replace hl : lv_has ls 4 [(0, .long g), (2, .int (nI k))] := hl
  refine lv_iconst (v := nI 4) hx hb dX0_manOfPart_0 (by decide) ?_
  refine lv_bipush (v := nI 15) hx hb dX0_manOfPart_1 (by decide) ?_
  refine lv_iload_n hx hb dX0_manOfPart_3 rfl (lv_at hl 1 rfl) ?_
  refine lv_isub hx hb dX0_manOfPart_4 ?_
  refine lv_is (pk_sub (by omega)) ?_
  refine lv_imul hx hb dX0_manOfPart_5 ?_
  refine lv_is (pk_mul _ _) ?_
  refine lv_istore_n (lv' := [(3, .int (nI (4 * (15 - k)))), (0, .long g), (2, .int (nI k))]) hx hb dX0_manOfPart_6 rfl hl (by decide) rfl (fun ls hl => ?_)
  refine lv_lload_n hx hb dX0_manOfPart_7 rfl (lv_at hl 1 rfl) ?_
  refine lv_iload_n hx hb dX0_manOfPart_8 rfl (lv_at hl 0 rfl) ?_
  refine lv_lushr (v := (g.toUInt64 >>> ((nI (4 * (15 - k))).toInt64.toUInt64 &&& Int64.toUInt64 63)).toInt64) hx hb dX0_manOfPart_9 rfl ?_
  refine lv_l2i (v := ((g.toUInt64 >>> ((nI (4 * (15 - k))).toInt64.toUInt64 &&& Int64.toUInt64 63)).toInt64).toInt32) hx hb dX0_manOfPart_10 rfl ?_
  refine lv_bipush (v := nI 15) hx hb dX0_manOfPart_11 (by decide) ?_
  refine lv_iand hx hb dX0_manOfPart_13 ?_
  refine lv_is (show (((g.toUInt64 >>> ((nI (4 * (15 - k))).toInt64.toUInt64 &&& Int64.toUInt64 63)).toInt64).toInt32) &&& (nI 15) = nI (nib g k) from nib_u g hk) ?_
  exact rd_ret hx hb hr hlocks (rfl) dX0_manOfPart_14
set_option maxHeartbeats 4000000 in
set_option maxRecDepth 100000 in
theorem k_X0_areMen (l : Launch) (g : Int64)  : Met l yX0_areMen wsX0_areMen ({ frames := 1, cells := 0, slots := 0, locals := 23 } : Room) (pu [.long g]) (QcRead (ga_areMen g)) 0 0 nofree := by
  refine Met.ofW (cc := cX0_areMen) (maxL := 3) (ret := (some .boolean)) (by decide) rfl ?_
  intro p e s m args below meth c s₁ B hml hv
  obtain ⟨rfl, -⟩ := hv
  have hx := B.exec
  have hb := B.bytes
  have hr := B.returns
  have hts := atoms_spec (ws := wsX0_areMen) B.pre
  have hown : s.vm.findClass RX0 = some m.cls := findClass_of_methodNamed B.named
  have hlocks := B.notSynchronized
  have hl := lv_entry ([.long g]) (n := 3) (Nat.le_of_ble_eq_true rfl)
  rw [lg_entry_eq]
  generalize (lg_sl ([.long g]) ++ List.replicate (3 - (lg_sl ([.long g])).length) Slot.unset).toArray = ls at hl ⊢
  replace hl : lv_has ls 3 [(0, .long g)] := hl
  refine lv_iconst (v := nI 0) hx hb dX0_areMen_0 (by decide) ?_
  refine lv_istore_n (lv' := [(2, .int (nI 0)), (0, .long g)]) hx hb dX0_areMen_1 rfl hl (by decide) rfl (fun ls hl => ?_)
  obtain ⟨i, hi0⟩ : ∃ i : Nat, i = 0 := ⟨0, rfl⟩
  replace hl := lv_sub hl [1, 0] rfl
  replace hl : lv_has ls 3 [(0, .long g), (2, .int (nI i))] := by rw [hi0]; exact hl
  have hib : i ≤ 16 := by omega
  have hI : ∀ k, k < i → nib g k ≤ 12 := by subst hi0; exact fun k hk => absurd hk (by omega)
  clear hi0
  obtain ⟨zi, hzi⟩ : ∃ z : Nat, 16 < i + z := ⟨16 + 1, by omega⟩
  induction zi generalizing i ls with
  | zero => exact absurd hzi (by omega)
  | succ zi ihi =>
    refine lv_iload_n hx hb dX0_areMen_2 rfl (lv_at hl 1 rfl) ?_
    refine lv_bipush (v := nI 16) hx hb dX0_areMen_3 (by decide) ?_
    refine lv_icmp_ge (tgt := 26) hx hb dX0_areMen_5 (by decide) (fun c_1 => ?_) (fun c_1 => ?_)
    · have c_1 : 16 ≤ i := (nI_leI (show 16 < 2 ^ 31 by omega) (show i < 2 ^ 31 by omega)).mp c_1
      refine lv_iconst (v := nI 1) hx hb dX0_areMen_26 (by decide) ?_
      exact rd_retz hx hb hr hlocks rfl (by rw [ga_areMen, if_pos (fun k hk => hI k (by omega))]) dX0_areMen_27
    · have c_1 : ¬ (16 ≤ i) := fun h => c_1 ((nI_leI (show 16 < 2 ^ 31 by omega) (show i < 2 ^ 31 by omega)).mpr h)
      refine lv_lload_n hx hb dX0_areMen_8 rfl (lv_at hl 0 rfl) ?_
      refine lv_iload_n hx hb dX0_areMen_9 rfl (lv_at hl 1 rfl) ?_
      refine pu_callS (rest := []) ⟨hx, hb, hml, hown, hts⟩ (k_X0_manOfPart l g i (by omega)) (va_cwS 2 hts gX0_areMen_X0_manOfPart rfl rfl rfl (by decide +kernel) ⟨Nat.le_of_ble_eq_true rfl, Nat.le_of_ble_eq_true rfl⟩) rfl hl.1 rfl (Nat.le_of_ble_eq_true rfl) dX0_areMen_10 ⟨Nat.zero_le _, Nat.zero_le _⟩ ?_
      have hnb := nib_lt g i
      refine lv_bipush (v := nI 12) hx hb dX0_areMen_13 (by decide) ?_
      refine lv_icmp_le (tgt := 20) hx hb dX0_areMen_15 (by decide) (fun c_2 => ?_) (fun c_2 => ?_)
      · have c_2 : (nib g i) ≤ 12 := (nI_leI (show nib g i < 2 ^ 31 by omega) (show 12 < 2 ^ 31 by omega)).mp c_2
        refine lv_iinc (v := nI (i + 1)) (lv' := [(2, .int (nI (i + 1))), (0, .long g)]) hx hb dX0_areMen_20 hl (k := 1) rfl (nI_1 _) (by decide) rfl (fun ls hl => ?_)
        refine lv_goto (tgt := 2) hx hb dX0_areMen_23 (by decide) ?_
        have hJ : ∀ k, k < i + 1 → nib g k ≤ 12 := fun k hk => by
          by_cases h : k = i
          · rw [h]; exact c_2
          · exact hI k (by omega)
        exact ihi _ _ (lv_sub hl [1, 0] rfl) (by omega) hJ (by omega)
      · have c_2 : ¬ ((nib g i) ≤ 12) := fun h => c_2 ((nI_leI (show nib g i < 2 ^ 31 by omega) (show 12 < 2 ^ 31 by omega)).mpr h)
        refine lv_iconst (v := nI 0) hx hb dX0_areMen_18 (by decide) ?_
        exact rd_retz hx hb hr hlocks rfl (by rw [ga_areMen, if_neg (fun h => c_2 (h i (by omega)))]) dX0_areMen_19
set_option maxHeartbeats 4000000 in
set_option maxRecDepth 100000 in
theorem k_X0_factOf (l : Launch) (dC : Nat → ClassId) (dI : Nat → Nat → Nat) (cI cJ : ClassId) (x g t f : Nat) (G T : Nat → Int64) (F : Nat → Int32) (n : Nat) (i b : Nat) (hi : i * 8 + b < 5120) : Met l yX0_factOf wsX0_factOf ({ frames := 0, cells := 0, slots := 0, locals := 0 } : Room) (rd (dC, dI) (wX cI cJ x g t f G T F n) (tK cI cJ) [.ref x, .int (nI i), .int (nI b)]) (QcRead (F (i * 8 + b))) 0 0 nofree := by
  refine Met.ofW (cc := cX0_factOf) (maxL := 3) (ret := (some .int)) (by decide) rfl ?_
  intro p e s m args below meth c s₁ B hml hv
  obtain ⟨rfl, hP, hK⟩ := hv
  have hx := B.exec
  have hb := B.bytes
  have hr := B.returns
  have hts := atoms_spec (ws := wsX0_factOf) B.pre
  have hown : s.vm.findClass RX0 = some m.cls := findClass_of_methodNamed B.named
  have hlocks := B.notSynchronized
  have hinX0 : ∀ w ∈ u_ws RX0 TX0 4, w ∈ wsX0_factOf := by decide +kernel
  have hf16 := hts (.fieldLink RX0 16 "GameArbiter" "facts" "[I") (by decide +kernel)
  have hl := lv_entry ([.ref x, .int (nI i), .int (nI b)]) (n := 3) (Nat.le_of_ble_eq_true rfl)
  rw [lg_entry_eq]
  generalize (lg_sl ([.ref x, .int (nI i), .int (nI b)]) ++ List.replicate (3 - (lg_sl ([.ref x, .int (nI i), .int (nI b)])).length) Slot.unset).toArray = ls at hl ⊢
  replace hl : lv_has ls 3 [(0, .ref x), (1, .int (nI i)), (2, .int (nI b))] := hl
  refine lv_aload_n hx hb dX0_factOf_0 rfl (lv_at hl 0 rfl) ?_
  refine va_get (D := (dC, dI)) (ci := 0) (v := .ref f) (C := RX0) (T := TX0) (N := 4) hx hb hts hinX0 hown hK hP 0 rfl rfl 2 (by decide) hf16 (fun _ h9 => h9) rfl dX0_factOf_1 ?_
  refine lv_iload_n hx hb dX0_factOf_4 rfl (lv_at hl 1 rfl) ?_
  refine lv_bipush (v := nI 8) hx hb dX0_factOf_5 (by decide) ?_
  refine lv_imul hx hb dX0_factOf_7 ?_
  refine lv_is (pk_mul _ _) ?_
  refine lv_iload_n hx hb dX0_factOf_8 rfl (lv_at hl 2 rfl) ?_
  refine lv_iadd hx hb dX0_factOf_9 ?_
  refine lv_is (nI_add _ _) ?_
  refine ix_iald hx hb hK hP 3 1 rfl rfl (show (i * 8) + b < 5120 by omega) (by decide) dX0_factOf_10 ?_
  exact rd_ret hx hb hr hlocks (rfl) dX0_factOf_11
set_option maxHeartbeats 4000000 in
set_option maxRecDepth 100000 in
theorem k_X0_isPosition (l : Launch) (dC : Nat → ClassId) (dI : Nat → Nat → Nat) (cI cJ : ClassId) (x g t f : Nat) (G T : Nat → Int64) (F : Nat → Int32) (n : Nat) (i : Int32)  : Met l yX0_isPosition wsX0_isPosition ({ frames := 0, cells := 0, slots := 0, locals := 0 } : Room) (rd (dC, dI) (wX cI cJ x g t f G T F n) (tK cI cJ) [.ref x, .int i]) (QcRead (ga_isPos n i)) 0 0 nofree := by
  refine Met.ofW (cc := cX0_isPosition) (maxL := 2) (ret := (some .boolean)) (by decide) rfl ?_
  intro p e s m args below meth c s₁ B hml hv
  obtain ⟨rfl, hP, hK⟩ := hv
  have hx := B.exec
  have hb := B.bytes
  have hr := B.returns
  have hts := atoms_spec (ws := wsX0_isPosition) B.pre
  have hown : s.vm.findClass RX0 = some m.cls := findClass_of_methodNamed B.named
  have hlocks := B.notSynchronized
  have hinX0 : ∀ w ∈ u_ws RX0 TX0 4, w ∈ wsX0_isPosition := by decide +kernel
  have hf20 := hts (.fieldLink RX0 20 "GameArbiter" "positions" "I") (by decide +kernel)
  have hl := lv_entry ([.ref x, .int i]) (n := 2) (Nat.le_of_ble_eq_true rfl)
  rw [lg_entry_eq]
  generalize (lg_sl ([.ref x, .int i]) ++ List.replicate (2 - (lg_sl ([.ref x, .int i])).length) Slot.unset).toArray = ls at hl ⊢
  replace hl : lv_has ls 2 [(0, .ref x), (1, .int i)] := hl
  refine lv_iload_n hx hb dX0_isPosition_0 rfl (lv_at hl 1 rfl) ?_
  refine lv_if_lt (tgt := 16) hx hb dX0_isPosition_1 (by decide) (fun c_1 => ?_) (fun c_1 => ?_)
  · refine lv_iconst (v := nI 0) hx hb dX0_isPosition_16 (by decide) ?_
    exact rd_retz hx hb hr hlocks rfl (by rw [ga_isPos, if_pos c_1]) dX0_isPosition_17
  · refine lv_iload_n hx hb dX0_isPosition_4 rfl (lv_at hl 1 rfl) ?_
    refine lv_aload_n hx hb dX0_isPosition_5 rfl (lv_at hl 0 rfl) ?_
    refine va_get (D := (dC, dI)) (ci := 0) (v := .int (nI n)) (C := RX0) (T := TX0) (N := 4) hx hb hts hinX0 hown hK hP 0 rfl rfl 3 (by decide) hf20 (fun _ h9 => h9) rfl dX0_isPosition_6 ?_
    refine lv_icmp_ge (tgt := 16) hx hb dX0_isPosition_9 (by decide) (fun c_2 => ?_) (fun c_2 => ?_)
    · refine lv_iconst (v := nI 0) hx hb dX0_isPosition_16 (by decide) ?_
      exact rd_retz hx hb hr hlocks rfl (by rw [ga_isPos, if_neg c_1, if_pos c_2]) dX0_isPosition_17
    · refine lv_iconst (v := nI 1) hx hb dX0_isPosition_12 (by decide) ?_
      refine lv_goto (tgt := 17) hx hb dX0_isPosition_13 (by decide) ?_
      exact rd_retz hx hb hr hlocks rfl (by rw [ga_isPos, if_neg c_1, if_neg c_2]) dX0_isPosition_17
set_option maxHeartbeats 4000000 in
set_option maxRecDepth 100000 in
theorem k_X0_takesAnother (l : Launch) (dC : Nat → ClassId) (dI : Nat → Nat → Nat) (cI cJ : ClassId) (x g t f : Nat) (G T : Nat → Int64) (F : Nat → Int32) (n : Nat) (hn : n ≤ 640) : Met l yX0_takesAnother wsX0_takesAnother ({ frames := 1, cells := 0, slots := 0, locals := 22 } : Room) (rd (dC, dI) (wX cI cJ x g t f G T F n) (tK cI cJ) [.ref x]) (QcRead (ga_takes F n)) 0 0 nofree := by
  refine Met.ofW (cc := cX0_takesAnother) (maxL := 2) (ret := (some .boolean)) (by decide) rfl ?_
  intro p e s m args below meth c s₁ B hml hv
  obtain ⟨rfl, hP, hK⟩ := hv
  have hx := B.exec
  have hb := B.bytes
  have hr := B.returns
  have hts := atoms_spec (ws := wsX0_takesAnother) B.pre
  have hown : s.vm.findClass RX0 = some m.cls := findClass_of_methodNamed B.named
  have hlocks := B.notSynchronized
  have hinX0 : ∀ w ∈ u_ws RX0 TX0 4, w ∈ wsX0_takesAnother := by decide +kernel
  have hf20 := hts (.fieldLink RX0 20 "GameArbiter" "positions" "I") (by decide +kernel)
  have hl := lv_entry ([.ref x]) (n := 2) (Nat.le_of_ble_eq_true rfl)
  rw [lg_entry_eq]
  generalize (lg_sl ([.ref x]) ++ List.replicate (2 - (lg_sl ([.ref x])).length) Slot.unset).toArray = ls at hl ⊢
  replace hl : lv_has ls 2 [(0, .ref x)] := hl
  refine lv_aload_n hx hb dX0_takesAnother_0 rfl (lv_at hl 0 rfl) ?_
  refine va_get (D := (dC, dI)) (ci := 0) (v := .int (nI n)) (C := RX0) (T := TX0) (N := 4) hx hb hts hinX0 hown hK hP 0 rfl rfl 3 (by decide) hf20 (fun _ h9 => h9) rfl dX0_takesAnother_1 ?_
  refine lv_if_eq (tgt := 17) hx hb dX0_takesAnother_4 (by decide) (fun c_1 => ?_) (fun c_1 => ?_)
  · have c_1 : n = 0 := (nz_eq (show n < 2 ^ 31 by omega)).mp c_1
    refine lv_iconst (v := nI 0) hx hb dX0_takesAnother_17 (by decide) ?_
    exact rd_retz hx hb hr hlocks rfl (by rw [ga_takes, if_pos c_1]) dX0_takesAnother_18
  · have c_1 : ¬ (n = 0) := fun h => c_1 ((nz_eq (show n < 2 ^ 31 by omega)).mpr h)
    refine lv_aload_n hx hb dX0_takesAnother_7 rfl (lv_at hl 0 rfl) ?_
    refine va_get (D := (dC, dI)) (ci := 0) (v := .int (nI n)) (C := RX0) (T := TX0) (N := 4) hx hb hts hinX0 hown hK hP 0 rfl rfl 3 (by decide) hf20 (fun _ h9 => h9) rfl dX0_takesAnother_8 ?_
    refine lv_sipush (v := nI 640) hx hb dX0_takesAnother_11 (by decide) ?_
    refine lv_icmp_lt (tgt := 19) hx hb dX0_takesAnother_14 (by decide) (fun c_2 => ?_) (fun c_2 => ?_)
    · have c_2 : n < 640 := (nI_ltI (show n < 2 ^ 31 by omega) (show 640 < 2 ^ 31 by omega)).mp c_2
      refine lv_aload_n hx hb dX0_takesAnother_19 rfl (lv_at hl 0 rfl) ?_
      refine lv_aload_n hx hb dX0_takesAnother_20 rfl (lv_at hl 0 rfl) ?_
      refine va_get (D := (dC, dI)) (ci := 0) (v := .int (nI n)) (C := RX0) (T := TX0) (N := 4) hx hb hts hinX0 hown hK hP 0 rfl rfl 3 (by decide) hf20 (fun _ h9 => h9) rfl dX0_takesAnother_21 ?_
      refine lv_iconst (v := nI 1) hx hb dX0_takesAnother_24 (by decide) ?_
      refine lv_isub hx hb dX0_takesAnother_25 ?_
      refine lv_is (pk_sub (by omega)) ?_
      refine lv_iconst (v := nI 2) hx hb dX0_takesAnother_26 (by decide) ?_
      refine rd_callV (rest := []) ⟨hx, hb, hml, hown, hts⟩ (k_X0_factOf l dC dI cI cJ x g t f G T F n (n - 1) 2 (by omega)) (cwV 2 hts gX0_takesAnother_X0_factOf rfl rfl rfl (by decide +kernel) ⟨Nat.le_of_ble_eq_true rfl, Nat.le_of_ble_eq_true rfl⟩) hK hP rfl (q0 := 0) rfl rfl hl.1 rfl (Nat.le_of_ble_eq_true rfl) dX0_takesAnother_27 ⟨Nat.zero_le _, Nat.zero_le _⟩ ?_
      refine lv_istore_n (lv' := [(1, .int (F ((n - 1) * 8 + 2))), (0, .ref x)]) hx hb dX0_takesAnother_30 rfl hl (by decide) rfl (fun ls hl => ?_)
      refine lv_iload_n hx hb dX0_takesAnother_31 rfl (lv_at hl 0 rfl) ?_
      refine lv_iconst (v := nI 1) hx hb dX0_takesAnother_32 (by decide) ?_
      refine lv_icmp_lt (tgt := 41) hx hb dX0_takesAnother_33 (by decide) (fun c_3 => ?_) (fun c_3 => ?_)
      · refine lv_iconst (v := nI 1) hx hb dX0_takesAnother_41 (by decide) ?_
        refine lv_goto (tgt := 46) hx hb dX0_takesAnother_42 (by decide) ?_
        exact rd_retz hx hb hr hlocks rfl (by rw [ga_takes, if_neg c_1, if_pos c_2, if_pos c_3]) dX0_takesAnother_46
      · refine lv_iload_n hx hb dX0_takesAnother_36 rfl (lv_at hl 0 rfl) ?_
        refine lv_iconst (v := nI 5) hx hb dX0_takesAnother_37 (by decide) ?_
        refine lv_icmp_le (tgt := 45) hx hb dX0_takesAnother_38 (by decide) (fun c_4 => ?_) (fun c_4 => ?_)
        · refine lv_iconst (v := nI 0) hx hb dX0_takesAnother_45 (by decide) ?_
          exact rd_retz hx hb hr hlocks rfl (by rw [ga_takes, if_neg c_1, if_pos c_2, if_neg c_3, if_pos c_4]) dX0_takesAnother_46
        · refine lv_iconst (v := nI 1) hx hb dX0_takesAnother_41 (by decide) ?_
          refine lv_goto (tgt := 46) hx hb dX0_takesAnother_42 (by decide) ?_
          exact rd_retz hx hb hr hlocks rfl (by rw [ga_takes, if_neg c_1, if_pos c_2, if_neg c_3, if_neg c_4]) dX0_takesAnother_46
    · have c_2 : ¬ (n < 640) := fun h => c_2 ((nI_ltI (show n < 2 ^ 31 by omega) (show 640 < 2 ^ 31 by omega)).mpr h)
      refine lv_iconst (v := nI 0) hx hb dX0_takesAnother_17 (by decide) ?_
      exact rd_retz hx hb hr hlocks rfl (by rw [ga_takes, if_neg c_1, if_neg c_2]) dX0_takesAnother_18
set_option maxHeartbeats 4000000 in
set_option maxRecDepth 100000 in
theorem k_X0_hasGivenSquares (l : Launch) (dC : Nat → ClassId) (dI : Nat → Nat → Nat) (cI cJ : ClassId) (x g t f : Nat) (G T : Nat → Int64) (F : Nat → Int32) (n : Nat) (a : Nat) (ha : a < 640) : Met l yX0_hasGivenSquares wsX0_hasGivenSquares ({ frames := 0, cells := 0, slots := 0, locals := 0 } : Room) (rd (dC, dI) (wX cI cJ x g t f G T F n) (tK cI cJ) [.ref x, .int (nI a)]) (QcRead (ga_has G T a)) 0 0 nofree := by
  refine Met.ofW (cc := cX0_hasGivenSquares) (maxL := 3) (ret := (some .boolean)) (by decide) rfl ?_
  intro p e s m args below meth c s₁ B hml hv
  obtain ⟨rfl, hP, hK⟩ := hv
  have hx := B.exec
  have hb := B.bytes
  have hr := B.returns
  have hts := atoms_spec (ws := wsX0_hasGivenSquares) B.pre
  have hown : s.vm.findClass RX0 = some m.cls := findClass_of_methodNamed B.named
  have hlocks := B.notSynchronized
  have hinX0 : ∀ w ∈ u_ws RX0 TX0 4, w ∈ wsX0_hasGivenSquares := by decide +kernel
  have hf9 := hts (.fieldLink RX0 9 "GameArbiter" "given" "[J") (by decide +kernel)
  have hf13 := hts (.fieldLink RX0 13 "GameArbiter" "told" "[J") (by decide +kernel)
  have hl := lv_entry ([.ref x, .int (nI a)]) (n := 3) (Nat.le_of_ble_eq_true rfl)
  rw [lg_entry_eq]
  generalize (lg_sl ([.ref x, .int (nI a)]) ++ List.replicate (3 - (lg_sl ([.ref x, .int (nI a)])).length) Slot.unset).toArray = ls at hl ⊢
  replace hl : lv_has ls 3 [(0, .ref x), (1, .int (nI a))] := hl
  refine lv_iconst (v := nI 0) hx hb dX0_hasGivenSquares_0 (by decide) ?_
  refine lv_istore_n (lv' := [(2, .int (nI 0)), (0, .ref x), (1, .int (nI a))]) hx hb dX0_hasGivenSquares_1 rfl hl (by decide) rfl (fun ls hl => ?_)
  obtain ⟨i, hi0⟩ : ∃ i : Nat, i = 0 := ⟨0, rfl⟩
  replace hl := lv_sub hl [1, 2, 0] rfl
  replace hl : lv_has ls 3 [(0, .ref x), (1, .int (nI a)), (2, .int (nI i))] := by rw [hi0]; exact hl
  have hib : i ≤ 4 := by omega
  have hI : ∀ p, p < i → T (a * 4 + p) = G p := by subst hi0; exact fun k hk => absurd hk (by omega)
  clear hi0
  obtain ⟨zi, hzi⟩ : ∃ z : Nat, 4 < i + z := ⟨4 + 1, by omega⟩
  induction zi generalizing i ls with
  | zero => exact absurd hzi (by omega)
  | succ zi ihi =>
    refine lv_iload_n hx hb dX0_hasGivenSquares_2 rfl (lv_at hl 2 rfl) ?_
    refine lv_iconst (v := nI 4) hx hb dX0_hasGivenSquares_3 (by decide) ?_
    refine lv_icmp_ge (tgt := 35) hx hb dX0_hasGivenSquares_4 (by decide) (fun c_1 => ?_) (fun c_1 => ?_)
    · have c_1 : 4 ≤ i := (nI_leI (show 4 < 2 ^ 31 by omega) (show i < 2 ^ 31 by omega)).mp c_1
      refine lv_iconst (v := nI 1) hx hb dX0_hasGivenSquares_35 (by decide) ?_
      exact rd_retz hx hb hr hlocks rfl (by rw [ga_has, if_pos (fun k hk => hI k (by omega))]) dX0_hasGivenSquares_36
    · have c_1 : ¬ (4 ≤ i) := fun h => c_1 ((nI_leI (show 4 < 2 ^ 31 by omega) (show i < 2 ^ 31 by omega)).mpr h)
      refine lv_aload_n hx hb dX0_hasGivenSquares_7 rfl (lv_at hl 0 rfl) ?_
      refine va_get (D := (dC, dI)) (ci := 0) (v := .ref t) (C := RX0) (T := TX0) (N := 4) hx hb hts hinX0 hown hK hP 0 rfl rfl 1 (by decide) hf13 (fun _ h9 => h9) rfl dX0_hasGivenSquares_8 ?_
      refine lv_iload_n hx hb dX0_hasGivenSquares_11 rfl (lv_at hl 1 rfl) ?_
      refine lv_iconst (v := nI 4) hx hb dX0_hasGivenSquares_12 (by decide) ?_
      refine lv_imul hx hb dX0_hasGivenSquares_13 ?_
      refine lv_is (pk_mul _ _) ?_
      refine lv_iload_n hx hb dX0_hasGivenSquares_14 rfl (lv_at hl 2 rfl) ?_
      refine lv_iadd hx hb dX0_hasGivenSquares_15 ?_
      refine lv_is (nI_add _ _) ?_
      refine ix_lald hx hb hK hP 2 0 rfl rfl (show (a * 4) + i < 2560 by omega) (by decide) dX0_hasGivenSquares_16 ?_
      refine lv_aload_n hx hb dX0_hasGivenSquares_17 rfl (lv_at hl 0 rfl) ?_
      refine va_get (D := (dC, dI)) (ci := 0) (v := .ref g) (C := RX0) (T := TX0) (N := 4) hx hb hts hinX0 hown hK hP 0 rfl rfl 0 (by decide) hf9 (fun _ h9 => h9) rfl dX0_hasGivenSquares_18 ?_
      refine lv_iload_n hx hb dX0_hasGivenSquares_21 rfl (lv_at hl 2 rfl) ?_
      refine ix_lald hx hb hK hP 1 0 rfl rfl (show i < 4 by omega) (by decide) dX0_hasGivenSquares_22 ?_
      refine W.lcmp hx hb dX0_hasGivenSquares_23 ?_
      refine lv_if_eq (tgt := 29) hx hb dX0_hasGivenSquares_24 (by decide) (fun c_2 => ?_) (fun c_2 => ?_)
      · refine lv_iinc (v := nI (i + 1)) (lv' := [(2, .int (nI (i + 1))), (0, .ref x), (1, .int (nI a))]) hx hb dX0_hasGivenSquares_29 hl (k := 2) rfl (nI_1 _) (by decide) rfl (fun ls hl => ?_)
        refine lv_goto (tgt := 2) hx hb dX0_hasGivenSquares_32 (by decide) ?_
        have hJ : ∀ p, p < i + 1 → T (a * 4 + p) = G p := fun p hp => by
          by_cases h : p = i
          · rw [h]; exact (lg_cmp_eq _ _).mp c_2
          · exact hI p (by omega)
        exact ihi _ _ (lv_sub hl [1, 2, 0] rfl) (by omega) hJ (by omega)
      · refine lv_iconst (v := nI 0) hx hb dX0_hasGivenSquares_27 (by decide) ?_
        exact rd_retz hx hb hr hlocks rfl (by rw [ga_has, if_neg (fun h => c_2 ((lg_cmp_eq _ _).mpr (h i (by omega))))]) dX0_hasGivenSquares_28
set_option maxHeartbeats 4000000 in
set_option maxRecDepth 100000 in
theorem k_X0_lastSame (l : Launch) (dC : Nat → ClassId) (dI : Nat → Nat → Nat) (cI cJ : ClassId) (x g t f : Nat) (G T : Nat → Int64) (F : Nat → Int32) (n : Nat) (q : Int32) (hn : n ≤ 640) : Met l yX0_lastSame wsX0_lastSame ({ frames := 1, cells := 0, slots := 0, locals := 22 } : Room) (rd (dC, dI) (wX cI cJ x g t f G T F n) (tK cI cJ) [.ref x, .int q]) (QcRead (ga_last G T F q n)) 0 0 nofree := by
  refine Met.ofW (cc := cX0_lastSame) (maxL := 3) (ret := (some .int)) (by decide) rfl ?_
  intro p e s m args below meth c s₁ B hml hv
  obtain ⟨rfl, hP, hK⟩ := hv
  have hx := B.exec
  have hb := B.bytes
  have hr := B.returns
  have hts := atoms_spec (ws := wsX0_lastSame) B.pre
  have hown : s.vm.findClass RX0 = some m.cls := findClass_of_methodNamed B.named
  have hlocks := B.notSynchronized
  have hinX0 : ∀ w ∈ u_ws RX0 TX0 4, w ∈ wsX0_lastSame := by decide +kernel
  have hf20 := hts (.fieldLink RX0 20 "GameArbiter" "positions" "I") (by decide +kernel)
  have hl := lv_entry ([.ref x, .int q]) (n := 3) (Nat.le_of_ble_eq_true rfl)
  rw [lg_entry_eq]
  generalize (lg_sl ([.ref x, .int q]) ++ List.replicate (3 - (lg_sl ([.ref x, .int q])).length) Slot.unset).toArray = ls at hl ⊢
  replace hl : lv_has ls 3 [(0, .ref x), (1, .int q)] := hl
  refine lv_aload_n hx hb dX0_lastSame_0 rfl (lv_at hl 0 rfl) ?_
  refine va_get (D := (dC, dI)) (ci := 0) (v := .int (nI n)) (C := RX0) (T := TX0) (N := 4) hx hb hts hinX0 hown hK hP 0 rfl rfl 3 (by decide) hf20 (fun _ h9 => h9) rfl dX0_lastSame_1 ?_
  refine lv_iconst (v := nI 1) hx hb dX0_lastSame_4 (by decide) ?_
  refine lv_isub hx hb dX0_lastSame_5 ?_
  refine lv_istore_n (lv' := [(2, .int ((nI n) - (nI 1))), (0, .ref x), (1, .int q)]) hx hb dX0_lastSame_6 rfl hl (by decide) rfl (fun ls hl => ?_)
  obtain ⟨k, hk0⟩ : ∃ k : Nat, k = n := ⟨n, rfl⟩
  replace hl : lv_has ls 3 [(2, .int (nI k - nI 1)), (0, .ref x), (1, .int q)] := by rw [hk0]; exact hl
  have hI : ga_last G T F q n = ga_last G T F q k := by rw [hk0]
  have hkn : k ≤ 640 := by omega
  clear hk0
  induction k generalizing ls with
  | zero =>
    refine lv_iload_n hx hb dX0_lastSame_7 rfl (lv_at hl 0 rfl) ?_
    refine lv_if_lt (tgt := 37) hx hb dX0_lastSame_8 (by decide) (fun c_1 => ?_) (fun c_1 => ?_)
    · refine lv_iconst (v := (-1)) hx hb dX0_lastSame_37 (by decide) ?_
      exact rd_ret hx hb hr hlocks (by rw [hI]; rfl) dX0_lastSame_38
    · exact absurd (by decide) c_1
  | succ k ih =>
    replace hl : lv_has ls 3 [(2, .int (nI k)), (0, .ref x), (1, .int q)] := by rw [show nI (k + 1) - nI 1 = nI k from nI_pred k] at hl; exact hl
    refine lv_iload_n hx hb dX0_lastSame_7 rfl (lv_at hl 0 rfl) ?_
    refine lv_if_lt (tgt := 37) hx hb dX0_lastSame_8 (by decide) (fun c_2 => ?_) (fun c_2 => ?_)
    · exact absurd c_2 (nI_pos (show k < 2 ^ 31 by omega))
    · refine lv_aload_n hx hb dX0_lastSame_11 rfl (lv_at hl 1 rfl) ?_
      refine lv_iload_n hx hb dX0_lastSame_12 rfl (lv_at hl 0 rfl) ?_
      refine lv_iconst (v := nI 5) hx hb dX0_lastSame_13 (by decide) ?_
      refine rd_callV (rest := []) ⟨hx, hb, hml, hown, hts⟩ (k_X0_factOf l dC dI cI cJ x g t f G T F n k 5 (by omega)) (cwV 2 hts gX0_lastSame_X0_factOf rfl rfl rfl (by decide +kernel) ⟨Nat.le_of_ble_eq_true rfl, Nat.le_of_ble_eq_true rfl⟩) hK hP rfl (q0 := 0) rfl rfl hl.1 rfl (Nat.le_of_ble_eq_true rfl) dX0_lastSame_14 ⟨Nat.zero_le _, Nat.zero_le _⟩ ?_
      refine lv_iload_n hx hb dX0_lastSame_17 rfl (lv_at hl 2 rfl) ?_
      refine lv_icmp_ne (tgt := 31) hx hb dX0_lastSame_18 (by decide) (fun c_3 => ?_) (fun c_3 => ?_)
      · refine lv_iinc (v := nI k - nI 1) (lv' := [(2, .int (nI k - nI 1)), (0, .ref x), (1, .int q)]) hx hb dX0_lastSame_31 hl (k := 0) rfl (by rw [Int32.sub_eq_add_neg]; rfl) (by decide) rfl (fun ls hl => ?_)
        have hJ : ga_last G T F q n = ga_last G T F q k := by rw [hI]; simp only [ga_last, c_2, c_3, ↓reduceIte]
        have hl := lv_sub hl [0, 1, 2] rfl
        have hl : lv_has ls 3 [(2, .int (nI k - nI 1)), (0, .ref x), (1, .int q)] := hl
        refine lv_goto (tgt := 7) hx hb dX0_lastSame_34 (by decide) ?_
        exact ih _ hl hJ (by omega)
      · refine lv_aload_n hx hb dX0_lastSame_21 rfl (lv_at hl 1 rfl) ?_
        refine lv_iload_n hx hb dX0_lastSame_22 rfl (lv_at hl 0 rfl) ?_
        refine rd_callV (rest := []) ⟨hx, hb, hml, hown, hts⟩ (k_X0_hasGivenSquares l dC dI cI cJ x g t f G T F n k (by omega)) (cwV 1 hts gX0_lastSame_X0_hasGivenSquares rfl rfl rfl (by decide +kernel) ⟨Nat.le_of_ble_eq_true rfl, Nat.le_of_ble_eq_true rfl⟩) hK hP rfl (q0 := 0) rfl rfl hl.1 rfl (Nat.le_of_ble_eq_true rfl) dX0_lastSame_23 ⟨Nat.zero_le _, Nat.zero_le _⟩ ?_
        refine lv_if_eq (tgt := 31) hx hb dX0_lastSame_26 (by decide) (fun c_4 => ?_) (fun c_4 => ?_)
        · refine lv_iinc (v := nI k - nI 1) (lv' := [(2, .int (nI k - nI 1)), (0, .ref x), (1, .int q)]) hx hb dX0_lastSame_31 hl (k := 0) rfl (by rw [Int32.sub_eq_add_neg]; rfl) (by decide) rfl (fun ls hl => ?_)
          have hJ : ga_last G T F q n = ga_last G T F q k := by rw [hI]; simp only [ga_last, c_2, c_3, c_4, ↓reduceIte]
          have hl := lv_sub hl [0, 1, 2] rfl
          have hl : lv_has ls 3 [(2, .int (nI k - nI 1)), (0, .ref x), (1, .int q)] := hl
          refine lv_goto (tgt := 7) hx hb dX0_lastSame_34 (by decide) ?_
          exact ih _ hl hJ (by omega)
        · refine lv_iload_n hx hb dX0_lastSame_29 rfl (lv_at hl 0 rfl) ?_
          exact rd_ret hx hb hr hlocks (by rw [hI]; simp only [ga_last, c_2, c_3, c_4, ↓reduceIte]) dX0_lastSame_30
set_option maxHeartbeats 4000000 in
set_option maxRecDepth 100000 in
theorem k_X0_countUpTo (l : Launch) (dC : Nat → ClassId) (dI : Nat → Nat → Nat) (cI cJ : ClassId) (x g t f : Nat) (G T : Nat → Int64) (F : Nat → Int32) (n : Nat) (i : Int32) (hn : n ≤ 640) : Met l yX0_countUpTo wsX0_countUpTo ({ frames := 1, cells := 0, slots := 0, locals := 22 } : Room) (rd (dC, dI) (wX cI cJ x g t f G T F n) (tK cI cJ) [.ref x, .int i]) (QcRead (ga_cup F n i)) 0 0 nofree := by
  refine Met.ofW (cc := cX0_countUpTo) (maxL := 2) (ret := (some .int)) (by decide) rfl ?_
  intro p e s m args below meth c s₁ B hml hv
  obtain ⟨rfl, hP, hK⟩ := hv
  have hx := B.exec
  have hb := B.bytes
  have hr := B.returns
  have hts := atoms_spec (ws := wsX0_countUpTo) B.pre
  have hown : s.vm.findClass RX0 = some m.cls := findClass_of_methodNamed B.named
  have hlocks := B.notSynchronized
  have hinX0 : ∀ w ∈ u_ws RX0 TX0 4, w ∈ wsX0_countUpTo := by decide +kernel
  have hl := lv_entry ([.ref x, .int i]) (n := 2) (Nat.le_of_ble_eq_true rfl)
  rw [lg_entry_eq]
  generalize (lg_sl ([.ref x, .int i]) ++ List.replicate (2 - (lg_sl ([.ref x, .int i])).length) Slot.unset).toArray = ls at hl ⊢
  replace hl : lv_has ls 2 [(0, .ref x), (1, .int i)] := hl
  refine lv_aload_n hx hb dX0_countUpTo_0 rfl (lv_at hl 0 rfl) ?_
  refine lv_iload_n hx hb dX0_countUpTo_1 rfl (lv_at hl 1 rfl) ?_
  refine rd_callV (rest := []) ⟨hx, hb, hml, hown, hts⟩ (k_X0_isPosition l dC dI cI cJ x g t f G T F n i) (cwV 1 hts gX0_countUpTo_X0_isPosition rfl rfl rfl (by decide +kernel) ⟨Nat.le_of_ble_eq_true rfl, Nat.le_of_ble_eq_true rfl⟩) hK hP rfl (q0 := 0) rfl rfl hl.1 rfl (Nat.le_of_ble_eq_true rfl) dX0_countUpTo_2 ⟨Nat.zero_le _, Nat.zero_le _⟩ ?_
  refine lv_if_eq (tgt := 17) hx hb dX0_countUpTo_5 (by decide) (fun c_1 => ?_) (fun c_1 => ?_)
  · refine lv_iconst (v := nI 0) hx hb dX0_countUpTo_17 (by decide) ?_
    exact rd_ret hx hb hr hlocks (by rw [ga_cup, if_pos c_1]) dX0_countUpTo_18
  · obtain ⟨a, ha, rfl⟩ := ga_isPos_nat hn c_1
    refine lv_aload_n hx hb dX0_countUpTo_8 rfl (lv_at hl 0 rfl) ?_
    refine lv_iload_n hx hb dX0_countUpTo_9 rfl (lv_at hl 1 rfl) ?_
    refine lv_iconst (v := nI 0) hx hb dX0_countUpTo_10 (by decide) ?_
    refine rd_callV (rest := []) ⟨hx, hb, hml, hown, hts⟩ (k_X0_factOf l dC dI cI cJ x g t f G T F n a 0 (by omega)) (cwV 2 hts gX0_countUpTo_X0_factOf rfl rfl rfl (by decide +kernel) ⟨Nat.le_of_ble_eq_true rfl, Nat.le_of_ble_eq_true rfl⟩) hK hP rfl (q0 := 0) rfl rfl hl.1 rfl (Nat.le_of_ble_eq_true rfl) dX0_countUpTo_11 ⟨Nat.zero_le _, Nat.zero_le _⟩ ?_
    refine lv_goto (tgt := 18) hx hb dX0_countUpTo_14 (by decide) ?_
    exact rd_ret hx hb hr hlocks (by rw [ga_cup, if_neg c_1, nI_clamp (by omega)]) dX0_countUpTo_18
end
section
set_option maxHeartbeats 4000000 in
set_option maxRecDepth 100000 in
theorem k_X0_judge (l : Launch) (mv ck dd ct cl : Int32)  : Met l yX0_judge wsX0_judge ({ frames := 0, cells := 0, slots := 0, locals := 0 } : Room) (pu [.int mv, .int ck, .int dd, .int ct, .int cl]) (QcRead (ga_judge mv ck dd ct cl)) 0 0 nofree := by
  refine Met.ofW (cc := cX0_judge) (maxL := 5) (ret := (some .int)) (by decide) rfl ?_
  intro p e s m args below meth c s₁ B hml hv
  obtain ⟨rfl, -⟩ := hv
  have hx := B.exec
  have hb := B.bytes
  have hr := B.returns
  have hts := atoms_spec (ws := wsX0_judge) B.pre
  have hown : s.vm.findClass RX0 = some m.cls := findClass_of_methodNamed B.named
  have hlocks := B.notSynchronized
  have hl := lv_entry ([.int mv, .int ck, .int dd, .int ct, .int cl]) (n := 5) (Nat.le_of_ble_eq_true rfl)
  rw [lg_entry_eq]
  generalize (lg_sl ([.int mv, .int ck, .int dd, .int ct, .int cl]) ++ List.replicate (5 - (lg_sl ([.int mv, .int ck, .int dd, .int ct, .int cl])).length) Slot.unset).toArray = ls at hl ⊢
  replace hl : lv_has ls 5 [(0, .int mv), (1, .int ck), (2, .int dd), (3, .int ct), (4, .int cl)] := hl
  refine lv_iload_n hx hb dX0_judge_0 rfl (lv_at hl 0 rfl) ?_
  refine lv_if_ne (tgt := 14) hx hb dX0_judge_1 (by decide) (fun c_1 => ?_) (fun c_1 => ?_)
  · refine lv_iload_n hx hb dX0_judge_14 rfl (lv_at hl 2 rfl) ?_
    refine lv_if_eq (tgt := 20) hx hb dX0_judge_15 (by decide) (fun c_2 => ?_) (fun c_2 => ?_)
    · refine lv_iload_n hx hb dX0_judge_20 rfl (lv_at hl 3 rfl) ?_
      refine lv_iconst (v := nI 5) hx hb dX0_judge_21 (by decide) ?_
      refine lv_icmp_lt (tgt := 27) hx hb dX0_judge_22 (by decide) (fun c_3 => ?_) (fun c_3 => ?_)
      · refine lv_iload hx hb dX0_judge_27 (lv_at hl 4 rfl) ?_
        refine lv_sipush (v := nI 150) hx hb dX0_judge_29 (by decide) ?_
        refine lv_icmp_lt (tgt := 37) hx hb dX0_judge_32 (by decide) (fun c_4 => ?_) (fun c_4 => ?_)
        · refine lv_iload_n hx hb dX0_judge_37 rfl (lv_at hl 3 rfl) ?_
          refine lv_iconst (v := nI 3) hx hb dX0_judge_38 (by decide) ?_
          refine lv_icmp_lt (tgt := 57) hx hb dX0_judge_39 (by decide) (fun c_5 => ?_) (fun c_5 => ?_)
          · refine lv_iload hx hb dX0_judge_57 (lv_at hl 4 rfl) ?_
            refine lv_bipush (v := nI 100) hx hb dX0_judge_59 (by decide) ?_
            refine lv_icmp_lt (tgt := 69) hx hb dX0_judge_61 (by decide) (fun c_6 => ?_) (fun c_6 => ?_)
            · refine lv_iconst (v := nI 0) hx hb dX0_judge_69 (by decide) ?_
              exact rd_ret hx hb hr hlocks (by rw [ga_judge, if_neg c_1, if_pos c_2, if_pos c_3, if_pos c_4, if_pos c_5, if_pos c_6]) dX0_judge_70
            · refine lv_bipush (v := nI 7) hx hb dX0_judge_64 (by decide) ?_
              refine lv_goto (tgt := 70) hx hb dX0_judge_66 (by decide) ?_
              exact rd_ret hx hb hr hlocks (by rw [ga_judge, if_neg c_1, if_pos c_2, if_pos c_3, if_pos c_4, if_pos c_5, if_neg c_6]) dX0_judge_70
          · refine lv_iload hx hb dX0_judge_42 (lv_at hl 4 rfl) ?_
            refine lv_bipush (v := nI 100) hx hb dX0_judge_44 (by decide) ?_
            refine lv_icmp_lt (tgt := 54) hx hb dX0_judge_46 (by decide) (fun c_7 => ?_) (fun c_7 => ?_)
            · refine lv_bipush (v := nI 6) hx hb dX0_judge_54 (by decide) ?_
              exact rd_ret hx hb hr hlocks (by rw [ga_judge, if_neg c_1, if_pos c_2, if_pos c_3, if_pos c_4, if_neg c_5, if_pos c_7]) dX0_judge_56
            · refine lv_bipush (v := nI 8) hx hb dX0_judge_49 (by decide) ?_
              refine lv_goto (tgt := 56) hx hb dX0_judge_51 (by decide) ?_
              exact rd_ret hx hb hr hlocks (by rw [ga_judge, if_neg c_1, if_pos c_2, if_pos c_3, if_pos c_4, if_neg c_5, if_neg c_7]) dX0_judge_56
        · refine lv_iconst (v := nI 5) hx hb dX0_judge_35 (by decide) ?_
          exact rd_ret hx hb hr hlocks (by rw [ga_judge, if_neg c_1, if_pos c_2, if_pos c_3, if_neg c_4]) dX0_judge_36
      · refine lv_iconst (v := nI 4) hx hb dX0_judge_25 (by decide) ?_
        exact rd_ret hx hb hr hlocks (by rw [ga_judge, if_neg c_1, if_pos c_2, if_neg c_3]) dX0_judge_26
    · refine lv_iconst (v := nI 3) hx hb dX0_judge_18 (by decide) ?_
      exact rd_ret hx hb hr hlocks (by rw [ga_judge, if_neg c_1, if_neg c_2]) dX0_judge_19
  · refine lv_iload_n hx hb dX0_judge_4 rfl (lv_at hl 1 rfl) ?_
    refine lv_if_eq (tgt := 12) hx hb dX0_judge_5 (by decide) (fun c_8 => ?_) (fun c_8 => ?_)
    · refine lv_iconst (v := nI 2) hx hb dX0_judge_12 (by decide) ?_
      exact rd_ret hx hb hr hlocks (by rw [ga_judge, if_pos c_1, if_pos c_8]) dX0_judge_13
    · refine lv_iconst (v := nI 1) hx hb dX0_judge_8 (by decide) ?_
      refine lv_goto (tgt := 13) hx hb dX0_judge_9 (by decide) ?_
      exact rd_ret hx hb hr hlocks (by rw [ga_judge, if_pos c_1, if_neg c_8]) dX0_judge_13
set_option maxHeartbeats 4000000 in
set_option maxRecDepth 100000 in
theorem k_X0_manGiven (l : Launch) (dC : Nat → ClassId) (dI : Nat → Nat → Nat) (cI cJ : ClassId) (x g t f : Nat) (G T : Nat → Int64) (F : Nat → Int32) (n : Nat) (k : Nat) (hk : k < 64) : Met l yX0_manGiven wsX0_manGiven ({ frames := 1, cells := 0, slots := 0, locals := 23 } : Room) (rd (dC, dI) (wX cI cJ x g t f G T F n) (tK cI cJ) [.ref x, .int (nI k)]) (QcRead (nI (sqm G k))) 0 0 nofree := by
  refine Met.ofW (cc := cX0_manGiven) (maxL := 2) (ret := (some .int)) (by decide) rfl ?_
  intro p e s m args below meth c s₁ B hml hv
  obtain ⟨rfl, hP, hK⟩ := hv
  have hx := B.exec
  have hb := B.bytes
  have hr := B.returns
  have hts := atoms_spec (ws := wsX0_manGiven) B.pre
  have hown : s.vm.findClass RX0 = some m.cls := findClass_of_methodNamed B.named
  have hlocks := B.notSynchronized
  have hinX0 : ∀ w ∈ u_ws RX0 TX0 4, w ∈ wsX0_manGiven := by decide +kernel
  have hf9 := hts (.fieldLink RX0 9 "GameArbiter" "given" "[J") (by decide +kernel)
  have hl := lv_entry ([.ref x, .int (nI k)]) (n := 2) (Nat.le_of_ble_eq_true rfl)
  rw [lg_entry_eq]
  generalize (lg_sl ([.ref x, .int (nI k)]) ++ List.replicate (2 - (lg_sl ([.ref x, .int (nI k)])).length) Slot.unset).toArray = ls at hl ⊢
  replace hl : lv_has ls 2 [(0, .ref x), (1, .int (nI k))] := hl
  refine lv_aload_n hx hb dX0_manGiven_0 rfl (lv_at hl 0 rfl) ?_
  refine va_get (D := (dC, dI)) (ci := 0) (v := .ref g) (C := RX0) (T := TX0) (N := 4) hx hb hts hinX0 hown hK hP 0 rfl rfl 0 (by decide) hf9 (fun _ h9 => h9) rfl dX0_manGiven_1 ?_
  refine lv_iload_n hx hb dX0_manGiven_4 rfl (lv_at hl 1 rfl) ?_
  refine lv_iconst (v := nI 4) hx hb dX0_manGiven_5 (by decide) ?_
  refine lv_ishr hx hb dX0_manGiven_6 ?_
  refine lv_is (show (nI k) >>> ((nI 4) &&& 31) = nI (k / 16) from pk_shrN (by omega) (nI 4 &&& 31) 4 (by decide)) ?_
  refine ix_lald hx hb hK hP 1 0 rfl rfl (show k / 16 < 4 by omega) (by decide) dX0_manGiven_7 ?_
  refine lv_iload_n hx hb dX0_manGiven_8 rfl (lv_at hl 1 rfl) ?_
  refine lv_bipush (v := nI 15) hx hb dX0_manGiven_9 (by decide) ?_
  refine lv_iand hx hb dX0_manGiven_11 ?_
  refine lv_is (show (nI k) &&& (nI 15) = nI (k % 16) from pk_andN (by omega) 4 (by decide)) ?_
  refine pu_callS (rest := []) ⟨hx, hb, hml, hown, hts⟩ (k_X0_manOfPart l (G (k / 16)) (k % 16) (by omega)) (va_cwS 2 hts gX0_manGiven_X0_manOfPart rfl rfl rfl (by decide +kernel) ⟨Nat.le_of_ble_eq_true rfl, Nat.le_of_ble_eq_true rfl⟩) rfl hl.1 rfl (Nat.le_of_ble_eq_true rfl) dX0_manGiven_12 ⟨Nat.zero_le _, Nat.zero_le _⟩ ?_
  exact rd_ret hx hb hr hlocks (rfl) dX0_manGiven_15
set_option maxHeartbeats 4000000 in
set_option maxRecDepth 100000 in
theorem k_X0_countGiven (l : Launch) (dC : Nat → ClassId) (dI : Nat → Nat → Nat) (cI cJ : ClassId) (x g t f : Nat) (G T : Nat → Int64) (F : Nat → Int32) (n : Nat) (man : Int32)  : Met l yX0_countGiven wsX0_countGiven ({ frames := 2, cells := 0, slots := 0, locals := 44 } : Room) (rd (dC, dI) (wX cI cJ x g t f G T F n) (tK cI cJ) [.ref x, .int man]) (QcRead (nI (ga_cnt G man 64))) 0 0 nofree := by
  refine Met.ofW (cc := cX0_countGiven) (maxL := 4) (ret := (some .int)) (by decide) rfl ?_
  intro p e s m args below meth c s₁ B hml hv
  obtain ⟨rfl, hP, hK⟩ := hv
  have hx := B.exec
  have hb := B.bytes
  have hr := B.returns
  have hts := atoms_spec (ws := wsX0_countGiven) B.pre
  have hown : s.vm.findClass RX0 = some m.cls := findClass_of_methodNamed B.named
  have hlocks := B.notSynchronized
  have hinX0 : ∀ w ∈ u_ws RX0 TX0 4, w ∈ wsX0_countGiven := by decide +kernel
  have hl := lv_entry ([.ref x, .int man]) (n := 4) (Nat.le_of_ble_eq_true rfl)
  rw [lg_entry_eq]
  generalize (lg_sl ([.ref x, .int man]) ++ List.replicate (4 - (lg_sl ([.ref x, .int man])).length) Slot.unset).toArray = ls at hl ⊢
  replace hl : lv_has ls 4 [(0, .ref x), (1, .int man)] := hl
  refine lv_iconst (v := nI 0) hx hb dX0_countGiven_0 (by decide) ?_
  refine lv_istore_n (lv' := [(2, .int (nI 0)), (0, .ref x), (1, .int man)]) hx hb dX0_countGiven_1 rfl hl (by decide) rfl (fun ls hl => ?_)
  refine lv_iconst (v := nI 0) hx hb dX0_countGiven_2 (by decide) ?_
  refine lv_istore_n (lv' := [(3, .int (nI 0)), (2, .int (nI 0)), (0, .ref x), (1, .int man)]) hx hb dX0_countGiven_3 rfl hl (by decide) rfl (fun ls hl => ?_)
  obtain ⟨i, hi0⟩ : ∃ i : Nat, i = 0 := ⟨0, rfl⟩
  replace hl := lv_sub hl [2, 3, 1, 0] rfl
  replace hl : lv_has ls 4 [(0, .ref x), (1, .int man), (2, .int (nI (ga_cnt G man i))), (3, .int (nI i))] := by rw [hi0]; exact hl
  have hib : i ≤ 64 := by omega
  clear hi0
  obtain ⟨zi, hzi⟩ : ∃ z : Nat, 64 < i + z := ⟨64 + 1, by omega⟩
  induction zi generalizing i ls with
  | zero => exact absurd hzi (by omega)
  | succ zi ihi =>
    refine lv_iload_n hx hb dX0_countGiven_4 rfl (lv_at hl 3 rfl) ?_
    refine lv_bipush (v := nI 64) hx hb dX0_countGiven_5 (by decide) ?_
    refine lv_icmp_ge (tgt := 28) hx hb dX0_countGiven_7 (by decide) (fun c_1 => ?_) (fun c_1 => ?_)
    · have c_1 : 64 ≤ i := (nI_leI (show 64 < 2 ^ 31 by omega) (show i < 2 ^ 31 by omega)).mp c_1
      refine lv_iload_n hx hb dX0_countGiven_28 rfl (lv_at hl 2 rfl) ?_
      exact rd_ret hx hb hr hlocks (by rw [show i = 64 by omega]) dX0_countGiven_29
    · have c_1 : ¬ (64 ≤ i) := fun h => c_1 ((nI_leI (show 64 < 2 ^ 31 by omega) (show i < 2 ^ 31 by omega)).mpr h)
      refine lv_aload_n hx hb dX0_countGiven_10 rfl (lv_at hl 0 rfl) ?_
      refine lv_iload_n hx hb dX0_countGiven_11 rfl (lv_at hl 3 rfl) ?_
      refine rd_callV (rest := []) ⟨hx, hb, hml, hown, hts⟩ (k_X0_manGiven l dC dI cI cJ x g t f G T F n i (by omega)) (cwV 1 hts gX0_countGiven_X0_manGiven rfl rfl rfl (by decide +kernel) ⟨Nat.le_of_ble_eq_true rfl, Nat.le_of_ble_eq_true rfl⟩) hK hP rfl (q0 := 0) rfl rfl hl.1 rfl (Nat.le_of_ble_eq_true rfl) dX0_countGiven_12 ⟨Nat.zero_le _, Nat.zero_le _⟩ ?_
      refine lv_iload_n hx hb dX0_countGiven_15 rfl (lv_at hl 1 rfl) ?_
      refine lv_icmp_ne (tgt := 22) hx hb dX0_countGiven_16 (by decide) (fun c_2 => ?_) (fun c_2 => ?_)
      · refine lv_iinc (v := nI (i + 1)) (lv' := [(3, .int (nI (i + 1))), (0, .ref x), (1, .int man), (2, .int (nI (ga_cnt G man i)))]) hx hb dX0_countGiven_22 hl (k := 3) rfl (nI_1 _) (by decide) rfl (fun ls hl => ?_)
        refine lv_goto (tgt := 4) hx hb dX0_countGiven_25 (by decide) ?_
        have e1 : ga_cnt G man i = ga_cnt G man (i + 1) := by simp only [ga_cnt, c_2, ↓reduceIte, Nat.add_zero]
        rw [e1] at hl
        exact ihi _ _ (lv_sub hl [1, 2, 3, 0] rfl) (by omega) (by omega)
      · refine lv_iinc (v := nI ((ga_cnt G man i) + 1)) (lv' := [(2, .int (nI ((ga_cnt G man i) + 1))), (0, .ref x), (1, .int man), (3, .int (nI i))]) hx hb dX0_countGiven_19 hl (k := 2) rfl (nI_1 _) (by decide) rfl (fun ls hl => ?_)
        refine lv_iinc (v := nI (i + 1)) (lv' := [(3, .int (nI (i + 1))), (2, .int (nI ((ga_cnt G man i) + 1))), (0, .ref x), (1, .int man)]) hx hb dX0_countGiven_22 hl (k := 3) rfl (nI_1 _) (by decide) rfl (fun ls hl => ?_)
        refine lv_goto (tgt := 4) hx hb dX0_countGiven_25 (by decide) ?_
        have e1 : (ga_cnt G man i) + 1 = ga_cnt G man (i + 1) := by simp only [ga_cnt, c_2, ↓reduceIte, Nat.add_zero]
        rw [e1] at hl
        exact ihi _ _ (lv_sub hl [2, 3, 1, 0] rfl) (by omega) (by omega)
set_option maxHeartbeats 4000000 in
set_option maxRecDepth 100000 in
theorem k_X0_firstSquareGiven (l : Launch) (dC : Nat → ClassId) (dI : Nat → Nat → Nat) (cI cJ : ClassId) (x g t f : Nat) (G T : Nat → Int64) (F : Nat → Int32) (n : Nat) (man : Int32)  : Met l yX0_firstSquareGiven wsX0_firstSquareGiven ({ frames := 2, cells := 0, slots := 0, locals := 44 } : Room) (rd (dC, dI) (wX cI cJ x g t f G T F n) (tK cI cJ) [.ref x, .int man]) (QcRead (ga_first G man 64)) 0 0 nofree := by
  refine Met.ofW (cc := cX0_firstSquareGiven) (maxL := 3) (ret := (some .int)) (by decide) rfl ?_
  intro p e s m args below meth c s₁ B hml hv
  obtain ⟨rfl, hP, hK⟩ := hv
  have hx := B.exec
  have hb := B.bytes
  have hr := B.returns
  have hts := atoms_spec (ws := wsX0_firstSquareGiven) B.pre
  have hown : s.vm.findClass RX0 = some m.cls := findClass_of_methodNamed B.named
  have hlocks := B.notSynchronized
  have hinX0 : ∀ w ∈ u_ws RX0 TX0 4, w ∈ wsX0_firstSquareGiven := by decide +kernel
  have hl := lv_entry ([.ref x, .int man]) (n := 3) (Nat.le_of_ble_eq_true rfl)
  rw [lg_entry_eq]
  generalize (lg_sl ([.ref x, .int man]) ++ List.replicate (3 - (lg_sl ([.ref x, .int man])).length) Slot.unset).toArray = ls at hl ⊢
  replace hl : lv_has ls 3 [(0, .ref x), (1, .int man)] := hl
  refine lv_iconst (v := nI 0) hx hb dX0_firstSquareGiven_0 (by decide) ?_
  refine lv_istore_n (lv' := [(2, .int (nI 0)), (0, .ref x), (1, .int man)]) hx hb dX0_firstSquareGiven_1 rfl hl (by decide) rfl (fun ls hl => ?_)
  obtain ⟨i, hi0⟩ : ∃ i : Nat, i = 0 := ⟨0, rfl⟩
  replace hl := lv_sub hl [1, 2, 0] rfl
  replace hl : lv_has ls 3 [(0, .ref x), (1, .int man), (2, .int (nI i))] := by rw [hi0]; exact hl
  have hib : i ≤ 64 := by omega
  have hI : ga_first G man 64 = ga_first G man (64 - i) := by subst hi0; rfl
  clear hi0
  obtain ⟨zi, hzi⟩ : ∃ z : Nat, 64 < i + z := ⟨64 + 1, by omega⟩
  induction zi generalizing i ls with
  | zero => exact absurd hzi (by omega)
  | succ zi ihi =>
    refine lv_iload_n hx hb dX0_firstSquareGiven_2 rfl (lv_at hl 2 rfl) ?_
    refine lv_bipush (v := nI 64) hx hb dX0_firstSquareGiven_3 (by decide) ?_
    refine lv_icmp_ge (tgt := 25) hx hb dX0_firstSquareGiven_5 (by decide) (fun c_1 => ?_) (fun c_1 => ?_)
    · have c_1 : 64 ≤ i := (nI_leI (show 64 < 2 ^ 31 by omega) (show i < 2 ^ 31 by omega)).mp c_1
      refine lv_iconst (v := (-1)) hx hb dX0_firstSquareGiven_25 (by decide) ?_
      exact rd_ret hx hb hr hlocks (by rw [hI, show 64 - i = 0 by omega]; rfl) dX0_firstSquareGiven_26
    · have c_1 : ¬ (64 ≤ i) := fun h => c_1 ((nI_leI (show 64 < 2 ^ 31 by omega) (show i < 2 ^ 31 by omega)).mpr h)
      refine lv_aload_n hx hb dX0_firstSquareGiven_8 rfl (lv_at hl 0 rfl) ?_
      refine lv_iload_n hx hb dX0_firstSquareGiven_9 rfl (lv_at hl 2 rfl) ?_
      refine rd_callV (rest := []) ⟨hx, hb, hml, hown, hts⟩ (k_X0_manGiven l dC dI cI cJ x g t f G T F n i (by omega)) (cwV 1 hts gX0_firstSquareGiven_X0_manGiven rfl rfl rfl (by decide +kernel) ⟨Nat.le_of_ble_eq_true rfl, Nat.le_of_ble_eq_true rfl⟩) hK hP rfl (q0 := 0) rfl rfl hl.1 rfl (Nat.le_of_ble_eq_true rfl) dX0_firstSquareGiven_10 ⟨Nat.zero_le _, Nat.zero_le _⟩ ?_
      refine lv_iload_n hx hb dX0_firstSquareGiven_13 rfl (lv_at hl 1 rfl) ?_
      refine lv_icmp_ne (tgt := 19) hx hb dX0_firstSquareGiven_14 (by decide) (fun c_2 => ?_) (fun c_2 => ?_)
      · refine lv_iinc (v := nI (i + 1)) (lv' := [(2, .int (nI (i + 1))), (0, .ref x), (1, .int man)]) hx hb dX0_firstSquareGiven_19 hl (k := 2) rfl (nI_1 _) (by decide) rfl (fun ls hl => ?_)
        refine lv_goto (tgt := 2) hx hb dX0_firstSquareGiven_22 (by decide) ?_
        have hJ : ga_first G man 64 = ga_first G man (64 - (i + 1)) := by
          rw [hI, show 64 - i = (64 - (i + 1)) + 1 by omega, ga_first, show 63 - (64 - (i + 1)) = i by omega, if_neg c_2]
        exact ihi _ _ (lv_sub hl [1, 2, 0] rfl) (by omega) hJ (by omega)
      · refine lv_iload_n hx hb dX0_firstSquareGiven_17 rfl (lv_at hl 2 rfl) ?_
        exact rd_ret hx hb hr hlocks (by rw [hI, show 64 - i = (64 - (i + 1)) + 1 by omega, ga_first, show 63 - (64 - (i + 1)) = i by omega, if_pos c_2]) dX0_firstSquareGiven_18
set_option maxHeartbeats 4000000 in
set_option maxRecDepth 100000 in
theorem k_X0_colourOf (l : Launch) (q : Int32)  : Met l yX0_colourOf wsX0_colourOf ({ frames := 0, cells := 0, slots := 0, locals := 0 } : Room) (pu [.int q]) (QcRead (ga_col q)) 0 0 nofree := by
  refine Met.ofW (cc := cX0_colourOf) (maxL := 3) (ret := (some .int)) (by decide) rfl ?_
  intro p e s m args below meth c s₁ B hml hv
  obtain ⟨rfl, -⟩ := hv
  have hx := B.exec
  have hb := B.bytes
  have hr := B.returns
  have hts := atoms_spec (ws := wsX0_colourOf) B.pre
  have hown : s.vm.findClass RX0 = some m.cls := findClass_of_methodNamed B.named
  have hlocks := B.notSynchronized
  have hl := lv_entry ([.int q]) (n := 3) (Nat.le_of_ble_eq_true rfl)
  rw [lg_entry_eq]
  generalize (lg_sl ([.int q]) ++ List.replicate (3 - (lg_sl ([.int q])).length) Slot.unset).toArray = ls at hl ⊢
  replace hl : lv_has ls 3 [(0, .int q)] := hl
  refine lv_iload_n hx hb dX0_colourOf_0 rfl (lv_at hl 0 rfl) ?_
  refine lv_bipush (v := nI 7) hx hb dX0_colourOf_1 (by decide) ?_
  refine lv_iand hx hb dX0_colourOf_3 ?_
  refine lv_istore_n (lv' := [(1, .int (q &&& (nI 7))), (0, .int q)]) hx hb dX0_colourOf_4 rfl hl (by decide) rfl (fun ls hl => ?_)
  refine lv_iload_n hx hb dX0_colourOf_5 rfl (lv_at hl 1 rfl) ?_
  refine lv_iconst (v := nI 3) hx hb dX0_colourOf_6 (by decide) ?_
  refine lv_ishr hx hb dX0_colourOf_7 ?_
  refine lv_istore_n (lv' := [(2, .int (q >>> ((nI 3) &&& 31))), (1, .int (q &&& (nI 7))), (0, .int q)]) hx hb dX0_colourOf_8 rfl hl (by decide) rfl (fun ls hl => ?_)
  refine lv_iload_n hx hb dX0_colourOf_9 rfl (lv_at hl 1 rfl) ?_
  refine lv_iload_n hx hb dX0_colourOf_10 rfl (lv_at hl 0 rfl) ?_
  refine lv_iadd hx hb dX0_colourOf_11 ?_
  refine lv_iconst (v := nI 1) hx hb dX0_colourOf_12 (by decide) ?_
  refine lv_iand hx hb dX0_colourOf_13 ?_
  exact rd_ret hx hb hr hlocks (rfl) dX0_colourOf_14
set_option maxHeartbeats 4000000 in
set_option maxRecDepth 100000 in
theorem k_X0_isGivenDead (l : Launch) (dC : Nat → ClassId) (dI : Nat → Nat → Nat) (cI cJ : ClassId) (x g t f : Nat) (G T : Nat → Int64) (F : Nat → Int32) (n : Nat) (men : Int32)  : Met l yX0_isGivenDead wsX0_isGivenDead ({ frames := 3, cells := 0, slots := 0, locals := 67 } : Room) (rd (dC, dI) (wX cI cJ x g t f G T F n) (tK cI cJ) [.ref x, .int men]) (QcRead (ga_dead G men)) 0 0 nofree := by
  refine Met.ofW (cc := cX0_isGivenDead) (maxL := 4) (ret := (some .boolean)) (by decide) rfl ?_
  intro p e s m args below meth c s₁ B hml hv
  obtain ⟨rfl, hP, hK⟩ := hv
  have hx := B.exec
  have hb := B.bytes
  have hr := B.returns
  have hts := atoms_spec (ws := wsX0_isGivenDead) B.pre
  have hown : s.vm.findClass RX0 = some m.cls := findClass_of_methodNamed B.named
  have hlocks := B.notSynchronized
  have hinX0 : ∀ w ∈ u_ws RX0 TX0 4, w ∈ wsX0_isGivenDead := by decide +kernel
  have hl := lv_entry ([.ref x, .int men]) (n := 4) (Nat.le_of_ble_eq_true rfl)
  rw [lg_entry_eq]
  generalize (lg_sl ([.ref x, .int men]) ++ List.replicate (4 - (lg_sl ([.ref x, .int men])).length) Slot.unset).toArray = ls at hl ⊢
  replace hl : lv_has ls 4 [(0, .ref x), (1, .int men)] := hl
  refine lv_aload_n hx hb dX0_isGivenDead_0 rfl (lv_at hl 0 rfl) ?_
  refine lv_bipush (v := nI 6) hx hb dX0_isGivenDead_1 (by decide) ?_
  have hcnnI6 := ga_cnt_le G (nI 6) 64
  refine rd_callV (rest := []) ⟨hx, hb, hml, hown, hts⟩ (k_X0_countGiven l dC dI cI cJ x g t f G T F n (nI 6)) (cwV 1 hts gX0_isGivenDead_X0_countGiven rfl rfl rfl (by decide +kernel) ⟨Nat.le_of_ble_eq_true rfl, Nat.le_of_ble_eq_true rfl⟩) hK hP rfl (q0 := 0) rfl rfl hl.1 rfl (Nat.le_of_ble_eq_true rfl) dX0_isGivenDead_3 ⟨Nat.zero_le _, Nat.zero_le _⟩ ?_
  refine lv_iconst (v := nI 1) hx hb dX0_isGivenDead_6 (by decide) ?_
  refine lv_icmp_ne (tgt := 20) hx hb dX0_isGivenDead_7 (by decide) (fun c_1 => ?_) (fun c_1 => ?_)
  · have c_1 : ¬ ((ga_cnt G (nI 6) 64) = 1) := fun h => c_1 ((nI_eq (show ga_cnt G (nI 6) 64 < 2 ^ 31 by omega) (show 1 < 2 ^ 31 by omega)).mpr h)
    refine lv_iconst (v := nI 0) hx hb dX0_isGivenDead_20 (by decide) ?_
    exact rd_retz hx hb hr hlocks rfl (by rw [ga_dead, if_neg c_1]) dX0_isGivenDead_21
  · have c_1 : (ga_cnt G (nI 6) 64) = 1 := (nI_eq (show ga_cnt G (nI 6) 64 < 2 ^ 31 by omega) (show 1 < 2 ^ 31 by omega)).mp c_1
    refine lv_aload_n hx hb dX0_isGivenDead_10 rfl (lv_at hl 0 rfl) ?_
    refine lv_bipush (v := nI 12) hx hb dX0_isGivenDead_11 (by decide) ?_
    have hcnnI12 := ga_cnt_le G (nI 12) 64
    refine rd_callV (rest := []) ⟨hx, hb, hml, hown, hts⟩ (k_X0_countGiven l dC dI cI cJ x g t f G T F n (nI 12)) (cwV 1 hts gX0_isGivenDead_X0_countGiven rfl rfl rfl (by decide +kernel) ⟨Nat.le_of_ble_eq_true rfl, Nat.le_of_ble_eq_true rfl⟩) hK hP rfl (q0 := 0) rfl rfl hl.1 rfl (Nat.le_of_ble_eq_true rfl) dX0_isGivenDead_13 ⟨Nat.zero_le _, Nat.zero_le _⟩ ?_
    refine lv_iconst (v := nI 1) hx hb dX0_isGivenDead_16 (by decide) ?_
    refine lv_icmp_eq (tgt := 22) hx hb dX0_isGivenDead_17 (by decide) (fun c_2 => ?_) (fun c_2 => ?_)
    · have c_2 : (ga_cnt G (nI 12) 64) = 1 := (nI_eq (show ga_cnt G (nI 12) 64 < 2 ^ 31 by omega) (show 1 < 2 ^ 31 by omega)).mp c_2
      refine lv_iload_n hx hb dX0_isGivenDead_22 rfl (lv_at hl 1 rfl) ?_
      refine lv_iconst (v := nI 2) hx hb dX0_isGivenDead_23 (by decide) ?_
      refine lv_icmp_ne (tgt := 29) hx hb dX0_isGivenDead_24 (by decide) (fun c_3 => ?_) (fun c_3 => ?_)
      · refine lv_aload_n hx hb dX0_isGivenDead_29 rfl (lv_at hl 0 rfl) ?_
        refine lv_iconst (v := nI 3) hx hb dX0_isGivenDead_30 (by decide) ?_
        have hcnnI3 := ga_cnt_le G (nI 3) 64
        refine rd_callV (rest := []) ⟨hx, hb, hml, hown, hts⟩ (k_X0_countGiven l dC dI cI cJ x g t f G T F n (nI 3)) (cwV 1 hts gX0_isGivenDead_X0_countGiven rfl rfl rfl (by decide +kernel) ⟨Nat.le_of_ble_eq_true rfl, Nat.le_of_ble_eq_true rfl⟩) hK hP rfl (q0 := 0) rfl rfl hl.1 rfl (Nat.le_of_ble_eq_true rfl) dX0_isGivenDead_31 ⟨Nat.zero_le _, Nat.zero_le _⟩ ?_
        refine lv_istore_n (lv' := [(2, .int (nI (ga_cnt G (nI 3) 64))), (0, .ref x), (1, .int men)]) hx hb dX0_isGivenDead_34 rfl hl (by decide) rfl (fun ls hl => ?_)
        refine lv_aload_n hx hb dX0_isGivenDead_35 rfl (lv_at hl 1 rfl) ?_
        refine lv_bipush (v := nI 9) hx hb dX0_isGivenDead_36 (by decide) ?_
        have hcnnI9 := ga_cnt_le G (nI 9) 64
        refine rd_callV (rest := []) ⟨hx, hb, hml, hown, hts⟩ (k_X0_countGiven l dC dI cI cJ x g t f G T F n (nI 9)) (cwV 1 hts gX0_isGivenDead_X0_countGiven rfl rfl rfl (by decide +kernel) ⟨Nat.le_of_ble_eq_true rfl, Nat.le_of_ble_eq_true rfl⟩) hK hP rfl (q0 := 0) rfl rfl hl.1 rfl (Nat.le_of_ble_eq_true rfl) dX0_isGivenDead_38 ⟨Nat.zero_le _, Nat.zero_le _⟩ ?_
        refine lv_istore_n (lv' := [(3, .int (nI (ga_cnt G (nI 9) 64))), (2, .int (nI (ga_cnt G (nI 3) 64))), (0, .ref x), (1, .int men)]) hx hb dX0_isGivenDead_41 rfl hl (by decide) rfl (fun ls hl => ?_)
        refine lv_iload_n hx hb dX0_isGivenDead_42 rfl (lv_at hl 3 rfl) ?_
        refine lv_iconst (v := nI 3) hx hb dX0_isGivenDead_43 (by decide) ?_
        refine lv_icmp_ne (tgt := 73) hx hb dX0_isGivenDead_44 (by decide) (fun c_4 => ?_) (fun c_4 => ?_)
        · refine lv_iload_n hx hb dX0_isGivenDead_73 rfl (lv_at hl 3 rfl) ?_
          refine lv_iconst (v := nI 4) hx hb dX0_isGivenDead_74 (by decide) ?_
          refine lv_icmp_ne (tgt := 112) hx hb dX0_isGivenDead_75 (by decide) (fun c_5 => ?_) (fun c_5 => ?_)
          · refine lv_iconst (v := nI 0) hx hb dX0_isGivenDead_112 (by decide) ?_
            exact rd_retz hx hb hr hlocks rfl (by rw [ga_dead, if_pos c_1, if_pos c_2, if_neg c_3, if_neg c_4, if_neg c_5]) dX0_isGivenDead_113
          · refine lv_iload_n hx hb dX0_isGivenDead_78 rfl (lv_at hl 1 rfl) ?_
            refine lv_iconst (v := nI 1) hx hb dX0_isGivenDead_79 (by decide) ?_
            refine lv_icmp_ne (tgt := 112) hx hb dX0_isGivenDead_80 (by decide) (fun c_6 => ?_) (fun c_6 => ?_)
            · have c_6 : ¬ ((ga_cnt G (nI 3) 64) = 1) := fun h => c_6 ((nI_eq (show ga_cnt G (nI 3) 64 < 2 ^ 31 by omega) (show 1 < 2 ^ 31 by omega)).mpr h)
              refine lv_iconst (v := nI 0) hx hb dX0_isGivenDead_112 (by decide) ?_
              exact rd_retz hx hb hr hlocks rfl (by rw [ga_dead, if_pos c_1, if_pos c_2, if_neg c_3, if_neg c_4, if_pos c_5, if_neg c_6]) dX0_isGivenDead_113
            · have c_6 : (ga_cnt G (nI 3) 64) = 1 := (nI_eq (show ga_cnt G (nI 3) 64 < 2 ^ 31 by omega) (show 1 < 2 ^ 31 by omega)).mp c_6
              refine lv_iload_n hx hb dX0_isGivenDead_83 rfl (lv_at hl 0 rfl) ?_
              refine lv_iconst (v := nI 1) hx hb dX0_isGivenDead_84 (by decide) ?_
              refine lv_icmp_ne (tgt := 112) hx hb dX0_isGivenDead_85 (by decide) (fun c_7 => ?_) (fun c_7 => ?_)
              · have c_7 : ¬ ((ga_cnt G (nI 9) 64) = 1) := fun h => c_7 ((nI_eq (show ga_cnt G (nI 9) 64 < 2 ^ 31 by omega) (show 1 < 2 ^ 31 by omega)).mpr h)
                refine lv_iconst (v := nI 0) hx hb dX0_isGivenDead_112 (by decide) ?_
                exact rd_retz hx hb hr hlocks rfl (by rw [ga_dead, if_pos c_1, if_pos c_2, if_neg c_3, if_neg c_4, if_pos c_5, if_pos c_6, if_neg c_7]) dX0_isGivenDead_113
              · have c_7 : (ga_cnt G (nI 9) 64) = 1 := (nI_eq (show ga_cnt G (nI 9) 64 < 2 ^ 31 by omega) (show 1 < 2 ^ 31 by omega)).mp c_7
                refine lv_aload_n hx hb dX0_isGivenDead_88 rfl (lv_at hl 2 rfl) ?_
                refine lv_iconst (v := nI 3) hx hb dX0_isGivenDead_89 (by decide) ?_
                refine rd_callV (rest := []) ⟨hx, hb, hml, hown, hts⟩ (k_X0_firstSquareGiven l dC dI cI cJ x g t f G T F n (nI 3)) (cwV 1 hts gX0_isGivenDead_X0_firstSquareGiven rfl rfl rfl (by decide +kernel) ⟨Nat.le_of_ble_eq_true rfl, Nat.le_of_ble_eq_true rfl⟩) hK hP rfl (q0 := 0) rfl rfl hl.1 rfl (Nat.le_of_ble_eq_true rfl) dX0_isGivenDead_90 ⟨Nat.zero_le _, Nat.zero_le _⟩ ?_
                refine pu_callS (rest := []) ⟨hx, hb, hml, hown, hts⟩ (k_X0_colourOf l (ga_first G (nI 3) 64)) (va_cwS 1 hts gX0_isGivenDead_X0_colourOf rfl rfl rfl (by decide +kernel) ⟨Nat.le_of_ble_eq_true rfl, Nat.le_of_ble_eq_true rfl⟩) rfl hl.1 rfl (Nat.le_of_ble_eq_true rfl) dX0_isGivenDead_93 ⟨Nat.zero_le _, Nat.zero_le _⟩ ?_
                refine lv_aload_n hx hb dX0_isGivenDead_96 rfl (lv_at hl 2 rfl) ?_
                refine lv_bipush (v := nI 9) hx hb dX0_isGivenDead_97 (by decide) ?_
                refine rd_callV (rest := [.int (ga_col (ga_first G (nI 3) 64))]) ⟨hx, hb, hml, hown, hts⟩ (k_X0_firstSquareGiven l dC dI cI cJ x g t f G T F n (nI 9)) (cwV 1 hts gX0_isGivenDead_X0_firstSquareGiven rfl rfl rfl (by decide +kernel) ⟨Nat.le_of_ble_eq_true rfl, Nat.le_of_ble_eq_true rfl⟩) hK hP rfl (q0 := 0) rfl rfl hl.1 rfl (Nat.le_of_ble_eq_true rfl) dX0_isGivenDead_99 ⟨Nat.zero_le _, Nat.zero_le _⟩ ?_
                refine pu_callS (rest := [.int (ga_col (ga_first G (nI 3) 64))]) ⟨hx, hb, hml, hown, hts⟩ (k_X0_colourOf l (ga_first G (nI 9) 64)) (va_cwS 1 hts gX0_isGivenDead_X0_colourOf rfl rfl rfl (by decide +kernel) ⟨Nat.le_of_ble_eq_true rfl, Nat.le_of_ble_eq_true rfl⟩) rfl hl.1 rfl (Nat.le_of_ble_eq_true rfl) dX0_isGivenDead_102 ⟨Nat.zero_le _, Nat.zero_le _⟩ ?_
                refine lv_icmp_ne (tgt := 112) hx hb dX0_isGivenDead_105 (by decide) (fun c_8 => ?_) (fun c_8 => ?_)
                · refine lv_iconst (v := nI 0) hx hb dX0_isGivenDead_112 (by decide) ?_
                  exact rd_retz hx hb hr hlocks rfl (by rw [ga_dead, if_pos c_1, if_pos c_2, if_neg c_3, if_neg c_4, if_pos c_5, if_pos c_6, if_pos c_7, if_neg c_8]) dX0_isGivenDead_113
                · refine lv_iconst (v := nI 1) hx hb dX0_isGivenDead_108 (by decide) ?_
                  refine lv_goto (tgt := 113) hx hb dX0_isGivenDead_109 (by decide) ?_
                  exact rd_retz hx hb hr hlocks rfl (by rw [ga_dead, if_pos c_1, if_pos c_2, if_neg c_3, if_neg c_4, if_pos c_5, if_pos c_6, if_pos c_7, if_pos c_8]) dX0_isGivenDead_113
        · refine lv_iload_n hx hb dX0_isGivenDead_47 rfl (lv_at hl 1 rfl) ?_
          refine lv_iload_n hx hb dX0_isGivenDead_48 rfl (lv_at hl 0 rfl) ?_
          refine lv_iadd hx hb dX0_isGivenDead_49 ?_
          refine lv_is (nI_add _ _) ?_
          refine lv_aload_n hx hb dX0_isGivenDead_50 rfl (lv_at hl 2 rfl) ?_
          refine lv_iconst (v := nI 2) hx hb dX0_isGivenDead_51 (by decide) ?_
          have hcnnI2 := ga_cnt_le G (nI 2) 64
          refine rd_callV (rest := [.int (nI ((ga_cnt G (nI 3) 64) + (ga_cnt G (nI 9) 64)))]) ⟨hx, hb, hml, hown, hts⟩ (k_X0_countGiven l dC dI cI cJ x g t f G T F n (nI 2)) (cwV 1 hts gX0_isGivenDead_X0_countGiven rfl rfl rfl (by decide +kernel) ⟨Nat.le_of_ble_eq_true rfl, Nat.le_of_ble_eq_true rfl⟩) hK hP rfl (q0 := 0) rfl rfl hl.1 rfl (Nat.le_of_ble_eq_true rfl) dX0_isGivenDead_52 ⟨Nat.zero_le _, Nat.zero_le _⟩ ?_
          refine lv_iadd hx hb dX0_isGivenDead_55 ?_
          refine lv_is (nI_add _ _) ?_
          refine lv_aload_n hx hb dX0_isGivenDead_56 rfl (lv_at hl 2 rfl) ?_
          refine lv_bipush (v := nI 8) hx hb dX0_isGivenDead_57 (by decide) ?_
          have hcnnI8 := ga_cnt_le G (nI 8) 64
          refine rd_callV (rest := [.int (nI (((ga_cnt G (nI 3) 64) + (ga_cnt G (nI 9) 64)) + (ga_cnt G (nI 2) 64)))]) ⟨hx, hb, hml, hown, hts⟩ (k_X0_countGiven l dC dI cI cJ x g t f G T F n (nI 8)) (cwV 1 hts gX0_isGivenDead_X0_countGiven rfl rfl rfl (by decide +kernel) ⟨Nat.le_of_ble_eq_true rfl, Nat.le_of_ble_eq_true rfl⟩) hK hP rfl (q0 := 0) rfl rfl hl.1 rfl (Nat.le_of_ble_eq_true rfl) dX0_isGivenDead_59 ⟨Nat.zero_le _, Nat.zero_le _⟩ ?_
          refine lv_iadd hx hb dX0_isGivenDead_62 ?_
          refine lv_is (nI_add _ _) ?_
          refine lv_iconst (v := nI 1) hx hb dX0_isGivenDead_63 (by decide) ?_
          refine lv_icmp_ne (tgt := 71) hx hb dX0_isGivenDead_64 (by decide) (fun c_9 => ?_) (fun c_9 => ?_)
          · have c_9 : ¬ (((((ga_cnt G (nI 3) 64) + (ga_cnt G (nI 9) 64)) + (ga_cnt G (nI 2) 64)) + (ga_cnt G (nI 8) 64)) = 1) := fun h => c_9 ((nI_eq (show (((ga_cnt G (nI 3) 64) + (ga_cnt G (nI 9) 64)) + (ga_cnt G (nI 2) 64)) + (ga_cnt G (nI 8) 64) < 2 ^ 31 by omega) (show 1 < 2 ^ 31 by omega)).mpr h)
            refine lv_iconst (v := nI 0) hx hb dX0_isGivenDead_71 (by decide) ?_
            exact rd_retz hx hb hr hlocks rfl (by rw [ga_dead, if_pos c_1, if_pos c_2, if_neg c_3, if_pos c_4, if_neg c_9]) dX0_isGivenDead_72
          · have c_9 : ((((ga_cnt G (nI 3) 64) + (ga_cnt G (nI 9) 64)) + (ga_cnt G (nI 2) 64)) + (ga_cnt G (nI 8) 64)) = 1 := (nI_eq (show (((ga_cnt G (nI 3) 64) + (ga_cnt G (nI 9) 64)) + (ga_cnt G (nI 2) 64)) + (ga_cnt G (nI 8) 64) < 2 ^ 31 by omega) (show 1 < 2 ^ 31 by omega)).mp c_9
            refine lv_iconst (v := nI 1) hx hb dX0_isGivenDead_67 (by decide) ?_
            refine lv_goto (tgt := 72) hx hb dX0_isGivenDead_68 (by decide) ?_
            exact rd_retz hx hb hr hlocks rfl (by rw [ga_dead, if_pos c_1, if_pos c_2, if_neg c_3, if_pos c_4, if_pos c_9]) dX0_isGivenDead_72
      · refine lv_iconst (v := nI 1) hx hb dX0_isGivenDead_27 (by decide) ?_
        exact rd_retz hx hb hr hlocks rfl (by rw [ga_dead, if_pos c_1, if_pos c_2, if_pos c_3]) dX0_isGivenDead_28
    · have c_2 : ¬ ((ga_cnt G (nI 12) 64) = 1) := fun h => c_2 ((nI_eq (show ga_cnt G (nI 12) 64 < 2 ^ 31 by omega) (show 1 < 2 ^ 31 by omega)).mpr h)
      refine lv_iconst (v := nI 0) hx hb dX0_isGivenDead_20 (by decide) ?_
      exact rd_retz hx hb hr hlocks rfl (by rw [ga_dead, if_pos c_1, if_neg c_2]) dX0_isGivenDead_21
set_option maxHeartbeats 4000000 in
set_option maxRecDepth 100000 in
theorem k_X0_differentPositions (l : Launch) (dC : Nat → ClassId) (dI : Nat → Nat → Nat) (cI cJ : ClassId) (x g t f : Nat) (G T : Nat → Int64) (F : Nat → Int32) (n : Nat) (hn : n ≤ 640) : Met l yX0_differentPositions wsX0_differentPositions ({ frames := 1, cells := 0, slots := 0, locals := 22 } : Room) (rd (dC, dI) (wX cI cJ x g t f G T F n) (tK cI cJ) [.ref x]) (QcRead (nI (ga_diff F n))) 0 0 nofree := by
  refine Met.ofW (cc := cX0_differentPositions) (maxL := 3) (ret := (some .int)) (by decide) rfl ?_
  intro p e s m args below meth c s₁ B hml hv
  obtain ⟨rfl, hP, hK⟩ := hv
  have hx := B.exec
  have hb := B.bytes
  have hr := B.returns
  have hts := atoms_spec (ws := wsX0_differentPositions) B.pre
  have hown : s.vm.findClass RX0 = some m.cls := findClass_of_methodNamed B.named
  have hlocks := B.notSynchronized
  have hinX0 : ∀ w ∈ u_ws RX0 TX0 4, w ∈ wsX0_differentPositions := by decide +kernel
  have hf20 := hts (.fieldLink RX0 20 "GameArbiter" "positions" "I") (by decide +kernel)
  have hl := lv_entry ([.ref x]) (n := 3) (Nat.le_of_ble_eq_true rfl)
  rw [lg_entry_eq]
  generalize (lg_sl ([.ref x]) ++ List.replicate (3 - (lg_sl ([.ref x])).length) Slot.unset).toArray = ls at hl ⊢
  replace hl : lv_has ls 3 [(0, .ref x)] := hl
  refine lv_iconst (v := nI 0) hx hb dX0_differentPositions_0 (by decide) ?_
  refine lv_istore_n (lv' := [(1, .int (nI 0)), (0, .ref x)]) hx hb dX0_differentPositions_1 rfl hl (by decide) rfl (fun ls hl => ?_)
  refine lv_iconst (v := nI 0) hx hb dX0_differentPositions_2 (by decide) ?_
  refine lv_istore_n (lv' := [(2, .int (nI 0)), (1, .int (nI 0)), (0, .ref x)]) hx hb dX0_differentPositions_3 rfl hl (by decide) rfl (fun ls hl => ?_)
  obtain ⟨i, hi0⟩ : ∃ i : Nat, i = 0 := ⟨0, rfl⟩
  replace hl := lv_sub hl [2, 1, 0] rfl
  replace hl : lv_has ls 3 [(0, .ref x), (1, .int (nI (ga_diff F i))), (2, .int (nI i))] := by rw [hi0]; exact hl
  have hib : i ≤ n := by omega
  clear hi0
  obtain ⟨zi, hzi⟩ : ∃ z : Nat, n < i + z := ⟨n + 1, by omega⟩
  induction zi generalizing i ls with
  | zero => exact absurd hzi (by omega)
  | succ zi ihi =>
    refine lv_iload_n hx hb dX0_differentPositions_4 rfl (lv_at hl 2 rfl) ?_
    refine lv_aload_n hx hb dX0_differentPositions_5 rfl (lv_at hl 0 rfl) ?_
    refine va_get (D := (dC, dI)) (ci := 0) (v := .int (nI n)) (C := RX0) (T := TX0) (N := 4) hx hb hts hinX0 hown hK hP 0 rfl rfl 3 (by decide) hf20 (fun _ h9 => h9) rfl dX0_differentPositions_6 ?_
    refine lv_icmp_ge (tgt := 31) hx hb dX0_differentPositions_9 (by decide) (fun c_1 => ?_) (fun c_1 => ?_)
    · have c_1 : n ≤ i := (nI_leI (show n < 2 ^ 31 by omega) (show i < 2 ^ 31 by omega)).mp c_1
      refine lv_iload_n hx hb dX0_differentPositions_31 rfl (lv_at hl 1 rfl) ?_
      exact rd_ret hx hb hr hlocks (by rw [show i = n by omega]) dX0_differentPositions_32
    · have c_1 : ¬ (n ≤ i) := fun h => c_1 ((nI_leI (show n < 2 ^ 31 by omega) (show i < 2 ^ 31 by omega)).mpr h)
      refine lv_aload_n hx hb dX0_differentPositions_12 rfl (lv_at hl 0 rfl) ?_
      refine lv_iload_n hx hb dX0_differentPositions_13 rfl (lv_at hl 2 rfl) ?_
      refine lv_iconst (v := nI 4) hx hb dX0_differentPositions_14 (by decide) ?_
      refine rd_callV (rest := []) ⟨hx, hb, hml, hown, hts⟩ (k_X0_factOf l dC dI cI cJ x g t f G T F n i 4 (by omega)) (cwV 2 hts gX0_differentPositions_X0_factOf rfl rfl rfl (by decide +kernel) ⟨Nat.le_of_ble_eq_true rfl, Nat.le_of_ble_eq_true rfl⟩) hK hP rfl (q0 := 0) rfl rfl hl.1 rfl (Nat.le_of_ble_eq_true rfl) dX0_differentPositions_15 ⟨Nat.zero_le _, Nat.zero_le _⟩ ?_
      refine lv_iconst (v := (-1)) hx hb dX0_differentPositions_18 (by decide) ?_
      refine lv_icmp_ne (tgt := 25) hx hb dX0_differentPositions_19 (by decide) (fun c_2 => ?_) (fun c_2 => ?_)
      · refine lv_iinc (v := nI (i + 1)) (lv' := [(2, .int (nI (i + 1))), (0, .ref x), (1, .int (nI (ga_diff F i)))]) hx hb dX0_differentPositions_25 hl (k := 2) rfl (nI_1 _) (by decide) rfl (fun ls hl => ?_)
        refine lv_goto (tgt := 4) hx hb dX0_differentPositions_28 (by decide) ?_
        have e1 : ga_diff F i = ga_diff F (i + 1) := by simp only [ga_diff, c_2, ↓reduceIte, Nat.add_zero]
        rw [e1] at hl
        exact ihi _ _ (lv_sub hl [1, 2, 0] rfl) (by omega) (by omega)
      · refine lv_iinc (v := nI ((ga_diff F i) + 1)) (lv' := [(1, .int (nI ((ga_diff F i) + 1))), (0, .ref x), (2, .int (nI i))]) hx hb dX0_differentPositions_22 hl (k := 1) rfl (nI_1 _) (by decide) rfl (fun ls hl => ?_)
        refine lv_iinc (v := nI (i + 1)) (lv' := [(2, .int (nI (i + 1))), (1, .int (nI ((ga_diff F i) + 1))), (0, .ref x)]) hx hb dX0_differentPositions_25 hl (k := 2) rfl (nI_1 _) (by decide) rfl (fun ls hl => ?_)
        refine lv_goto (tgt := 4) hx hb dX0_differentPositions_28 (by decide) ?_
        have e1 : (ga_diff F i) + 1 = ga_diff F (i + 1) := by simp only [ga_diff, c_2, ↓reduceIte, Nat.add_zero]
        rw [e1] at hl
        exact ihi _ _ (lv_sub hl [2, 1, 0] rfl) (by omega) (by omega)
set_option maxHeartbeats 4000000 in
set_option maxRecDepth 100000 in
theorem k_X0_greatest (l : Launch) (dC : Nat → ClassId) (dI : Nat → Nat → Nat) (cI cJ : ClassId) (x g t f : Nat) (G T : Nat → Int64) (F : Nat → Int32) (n : Nat) (b : Nat) (hn : n ≤ 640) (hb8 : b < 8) : Met l yX0_greatest wsX0_greatest ({ frames := 1, cells := 0, slots := 0, locals := 30 } : Room) (rd (dC, dI) (wX cI cJ x g t f G T F n) (tK cI cJ) [.ref x, .int (nI b)]) (QcRead (ga_great F b n)) 0 0 nofree := by
  refine Met.ofW (cc := cX0_greatest) (maxL := 4) (ret := (some .int)) (by decide) rfl ?_
  intro p e s m args below meth c s₁ B hml hv
  obtain ⟨rfl, hP, hK⟩ := hv
  have hx := B.exec
  have hb := B.bytes
  have hr := B.returns
  have hts := atoms_spec (ws := wsX0_greatest) B.pre
  have hown : s.vm.findClass RX0 = some m.cls := findClass_of_methodNamed B.named
  have hlocks := B.notSynchronized
  have hinX0 : ∀ w ∈ u_ws RX0 TX0 4, w ∈ wsX0_greatest := by decide +kernel
  have hf20 := hts (.fieldLink RX0 20 "GameArbiter" "positions" "I") (by decide +kernel)
  have hl := lv_entry ([.ref x, .int (nI b)]) (n := 4) (Nat.le_of_ble_eq_true rfl)
  rw [lg_entry_eq]
  generalize (lg_sl ([.ref x, .int (nI b)]) ++ List.replicate (4 - (lg_sl ([.ref x, .int (nI b)])).length) Slot.unset).toArray = ls at hl ⊢
  replace hl : lv_has ls 4 [(0, .ref x), (1, .int (nI b))] := hl
  refine lv_iconst (v := nI 0) hx hb dX0_greatest_0 (by decide) ?_
  refine lv_istore_n (lv' := [(2, .int (nI 0)), (0, .ref x), (1, .int (nI b))]) hx hb dX0_greatest_1 rfl hl (by decide) rfl (fun ls hl => ?_)
  refine lv_iconst (v := nI 0) hx hb dX0_greatest_2 (by decide) ?_
  refine lv_istore_n (lv' := [(3, .int (nI 0)), (2, .int (nI 0)), (0, .ref x), (1, .int (nI b))]) hx hb dX0_greatest_3 rfl hl (by decide) rfl (fun ls hl => ?_)
  obtain ⟨i, hi0⟩ : ∃ i : Nat, i = 0 := ⟨0, rfl⟩
  replace hl := lv_sub hl [2, 3, 1, 0] rfl
  replace hl : lv_has ls 4 [(0, .ref x), (1, .int (nI b)), (2, .int (ga_great F b i)), (3, .int (nI i))] := by rw [hi0]; exact hl
  have hib : i ≤ n := by omega
  clear hi0
  obtain ⟨zi, hzi⟩ : ∃ z : Nat, n < i + z := ⟨n + 1, by omega⟩
  induction zi generalizing i ls with
  | zero => exact absurd hzi (by omega)
  | succ zi ihi =>
    refine lv_iload_n hx hb dX0_greatest_4 rfl (lv_at hl 3 rfl) ?_
    refine lv_aload_n hx hb dX0_greatest_5 rfl (lv_at hl 0 rfl) ?_
    refine va_get (D := (dC, dI)) (ci := 0) (v := .int (nI n)) (C := RX0) (T := TX0) (N := 4) hx hb hts hinX0 hown hK hP 0 rfl rfl 3 (by decide) hf20 (fun _ h9 => h9) rfl dX0_greatest_6 ?_
    refine lv_icmp_ge (tgt := 29) hx hb dX0_greatest_9 (by decide) (fun c_1 => ?_) (fun c_1 => ?_)
    · have c_1 : n ≤ i := (nI_leI (show n < 2 ^ 31 by omega) (show i < 2 ^ 31 by omega)).mp c_1
      refine lv_iload_n hx hb dX0_greatest_29 rfl (lv_at hl 2 rfl) ?_
      exact rd_ret hx hb hr hlocks (by rw [show i = n by omega]) dX0_greatest_30
    · have c_1 : ¬ (n ≤ i) := fun h => c_1 ((nI_leI (show n < 2 ^ 31 by omega) (show i < 2 ^ 31 by omega)).mpr h)
      refine lv_iload_n hx hb dX0_greatest_12 rfl (lv_at hl 2 rfl) ?_
      refine lv_aload_n hx hb dX0_greatest_13 rfl (lv_at hl 0 rfl) ?_
      refine lv_iload_n hx hb dX0_greatest_14 rfl (lv_at hl 3 rfl) ?_
      refine lv_iload_n hx hb dX0_greatest_15 rfl (lv_at hl 1 rfl) ?_
      refine rd_callV (rest := [.int (ga_great F b i)]) ⟨hx, hb, hml, hown, hts⟩ (k_X0_factOf l dC dI cI cJ x g t f G T F n i b (by omega)) (cwV 2 hts gX0_greatest_X0_factOf rfl rfl rfl (by decide +kernel) ⟨Nat.le_of_ble_eq_true rfl, Nat.le_of_ble_eq_true rfl⟩) hK hP rfl (q0 := 0) rfl rfl hl.1 rfl (Nat.le_of_ble_eq_true rfl) dX0_greatest_16 ⟨Nat.zero_le _, Nat.zero_le _⟩ ?_
      refine va_mmax hx hb (hml.trans hl.1.symm) hown (hts (.methodLink RX0 125 Lib.Math.max.name) (by decide +kernel)) (hts (.static Lib.Math.max.name) (by decide +kernel)) (hts (.initialized "java/lang/Math") (by decide +kernel)) (hts (.code Lib.Math.max.name Lib.Math.max.code 2 (some .int)) (by decide +kernel)) (Nat.le_of_ble_eq_true rfl) (Nat.le_of_ble_eq_true rfl) (Nat.zero_le _) (Nat.zero_le _) dX0_greatest_19 ?_
      refine lv_is (y := ga_great F b (i + 1)) rfl ?_
      refine lv_istore_n (lv' := [(2, .int (ga_great F b (i + 1))), (0, .ref x), (1, .int (nI b)), (3, .int (nI i))]) hx hb dX0_greatest_22 rfl hl (by decide) rfl (fun ls hl => ?_)
      refine lv_iinc (v := nI (i + 1)) (lv' := [(3, .int (nI (i + 1))), (2, .int (ga_great F b (i + 1))), (0, .ref x), (1, .int (nI b))]) hx hb dX0_greatest_23 hl (k := 3) rfl (nI_1 _) (by decide) rfl (fun ls hl => ?_)
      refine lv_goto (tgt := 4) hx hb dX0_greatest_26 (by decide) ?_
      exact ihi _ _ (lv_sub hl [2, 3, 1, 0] rfl) (by omega) (by omega)
end
section
/-! contracts that own cells: their start, their end, their calls -/
def wr (D : va_G) (ws : va_W) (tys : List (ClassId × FieldType)) (sz : Nat) (av : List Value) : Array Value → State → Prop := va_Pc av (fun U => U.heap.size = sz ∧ va_P D vwCl ws U.heap ∧ va_K D vwCl tys U ∧ va_D (fun _ => True) ws)
theorem wr_blind {D : va_G} {ws : va_W} {tys : List (ClassId × FieldType)} {sz : Nat} {av : List Value} : FrameBlind (wr D ws tys sz av) := fun a U g mk q => by
  obtain ⟨q0, q1, qP, qK, qD⟩ := q
  exact ⟨q0, q1, qP, va_K.moved (u := U) (U := U.calling g mk a) (Vm.Alike.refl U.vm) qK, qD⟩
def wrB (D : va_G) (ws : va_W) (tys : List (ClassId × FieldType)) (A : Nat → Prop) (t : State) : Prop := va_P D vwCl ws t.heap ∧ va_K D vwCl tys t ∧ va_D A ws
abbrev wrQ (D : va_G) (ws : va_W) (tys : List (ClassId × FieldType)) (A : Nat → Prop) (post : Int32 → Prop) : Array Value → State → Outcome → State → Prop := va_Qi (fun r (_ : Unit) => post r) (fun _ => wrB D ws tys A) A
abbrev wrL (D : va_G) (ws : va_W) (tys : List (ClassId × FieldType)) (A : Nat → Prop) (post : Int64 → Prop) : Array Value → State → Outcome → State → Prop := va_Ql (fun r (_ : Unit) => post r) (fun _ => wrB D ws tys A) A
abbrev wrV (D : va_G) (ws : Nat → va_W) (tys : Nat → List (ClassId × FieldType)) (A : Nat → Prop) : Array Value → State → Outcome → State → Prop := va_Qv (fun (_ : Unit) => True) (fun _ t => ∃ z, wrB D (ws z) (tys z) A t) A
def dcl (C : String) : MethodName := ⟨C, "<init>", "(Ljava/lang/String;)V"⟩
/-- what a throw needs besides: two statics of Throwable, two texts, two classes, three constructors -/
def xw (A : Nat → Prop) (i1 i2 : Nat) (t1 t2 : String) (a1 a2 : Nat) (E1 E2 : String) (U : State) (H : Heap) : Prop :=
  vx_Zq Bundle.tN "UNASSIGNED_STACK" Bundle.steD A U H ∧ vx_Zq Bundle.tN "SUPPRESSED_SENTINEL" Bundle.listD A U H ∧ vk_R RX0 i1 t1 a1 U ∧ vk_R RX0 i2 t2 a2 U ∧ va_Nw (.castable E1 E1) U ∧ va_Nw (.castable E2 E2) U ∧ va_Nw (.declares (dcl "java/lang/RuntimeException")) U ∧ va_Nw (.declares (dcl "java/lang/Exception")) U ∧ va_Nw (.declares (dcl "java/lang/Throwable")) U ∧ (E1 = E2 ∨ va_Nc E2 E1 U)
theorem xw.same {A : Nat → Prop} {i1 i2 : Nat} {t1 t2 : String} {a1 a2 : Nat} {E1 E2 : String} {u U : State} {H : Heap} (hv : U.vm = u.vm) (h : xw A i1 i2 t1 t2 a1 a2 E1 E2 u H) : xw A i1 i2 t1 t2 a1 a2 E1 E2 U H := by
  obtain ⟨h1, h2, h3, h4, h5, h6, h7, h8, h9, h10⟩ := h
  exact ⟨h1.moved (by rw [hv]; exact Vm.Alike.refl _), h2.moved (by rw [hv]; exact Vm.Alike.refl _), h3.same hv, h4.same hv, va_Nw.same rfl hv.symm h5, va_Nw.same rfl hv.symm h6, va_Nw.same rfl hv.symm h7, va_Nw.same rfl hv.symm h8, va_Nw.same rfl hv.symm h9, h10.imp id (fun z => z.moved (by rw [hv]; exact Vm.Alike.refl _))⟩
theorem xw.warm {A : Nat → Prop} {i1 i2 : Nat} {t1 t2 : String} {a1 a2 : Nat} {E1 E2 : String} {s U : State} {H : Heap} (hW : s.WarmedH U.vm) (h : xw A i1 i2 t1 t2 a1 a2 E1 E2 s H) : xw A i1 i2 t1 t2 a1 a2 E1 E2 U H := by
  obtain ⟨h1, h2, h3, h4, h5, h6, h7, h8, h9, h10⟩ := h
  exact ⟨h1.moved hW.alike, h2.moved hW.alike, h3.warm hW, h4.warm hW, h5.warmC hW, h6.warmC hW, h7.warmD hW, h8.warmD hW, h9.warmD hW, h10.imp id (fun z => z.moved hW.alike)⟩
theorem xw.kept {A : Nat → Prop} {i1 i2 : Nat} {t1 t2 : String} {a1 a2 : Nat} {E1 E2 : String} {U : State} {H H1 : Heap} (h : xw A i1 i2 t1 t2 a1 a2 E1 E2 U H) (hq : ∀ a : Nat, a < H.size → ¬ A a → H1[a]? = H[a]?) : xw A i1 i2 t1 t2 a1 a2 E1 E2 U H1 := by
  obtain ⟨h1, h2, h3, h4, h5, h6, h7, h8, h9, h10⟩ := h
  exact ⟨h1.kept hq, h2.kept hq, h3, h4, h5, h6, h7, h8, h9, h10⟩
theorem xw.narrow {A B : Nat → Prop} {i1 i2 : Nat} {t1 t2 : String} {a1 a2 : Nat} {E1 E2 : String} {U : State} {H : Heap} (h : xw A i1 i2 t1 t2 a1 a2 E1 E2 U H) (hAB : ∀ q, B q → A q) : xw B i1 i2 t1 t2 a1 a2 E1 E2 U H := by
  obtain ⟨h1, h2, h3, h4, h5, h6, h7, h8, h9, h10⟩ := h
  exact ⟨h1.narrow hAB, h2.narrow hAB, h3, h4, h5, h6, h7, h8, h9, h10⟩
def th (D : va_G) (ws : va_W) (tys : List (ClassId × FieldType)) (sz i1 i2 : Nat) (t1 t2 : String) (a1 a2 : Nat) (E1 E2 : String) (av : List Value) : Array Value → State → Prop := va_Pc av (fun U => U.heap.size = sz ∧ va_P D vwCl ws U.heap ∧ va_K D vwCl tys U ∧ va_D (fun _ => True) ws ∧ xw (va_A ws sz) i1 i2 t1 t2 a1 a2 E1 E2 U U.heap)
theorem th_blind {D : va_G} {ws : va_W} {tys : List (ClassId × FieldType)} {sz i1 i2 : Nat} {t1 t2 : String} {a1 a2 : Nat} {E1 E2 : String} {av : List Value} : FrameBlind (th D ws tys sz i1 i2 t1 t2 a1 a2 E1 E2 av) := fun a U g mk q => by
  obtain ⟨q0, q1, qP, qK, qD, qX⟩ := q
  exact ⟨q0, q1, qP, va_K.moved (u := U) (U := U.calling g mk a) (Vm.Alike.refl U.vm) qK, qD, xw.same (u := U) (U := U.calling g mk a) rfl qX⟩
/-- a throw's end: the cells as they were; ex says what class, and why -/
def thX (D : va_G) (ws : va_W) (tys : List (ClassId × FieldType)) (A : Nat → Prop) (ex : String → Prop) : String → State → State → Prop := vx_X (fun (_ : Unit) => True) (fun E _ t => ex E ∧ wrB D ws tys A t) A
theorem sub_of {ws wc : va_W} {is : List Nat} (h : is.map (fun i => ws[i]?) = wc.map some) : is.filterMap (fun i => ws[i]?) = wc := by
  have h1 : is.filterMap (fun i => ws[i]?) = (is.map (fun i => ws[i]?)).filterMap id := by rw [List.filterMap_map]; rfl
  rw [h1, h, List.filterMap_map]
  simp
section R9
variable {p : Program} {l : Launch} {e : Env} {R : Room} {s : State} {m : MethodId} {args : Array Value} {below : List Frame} {meth : Method} {c : Code} {H : Heap} {locs : List Loc} {cells slots : Nat} {Q : State → Prop}
variable {y : MethodName} {bytes cc : ByteArray} {maxL nL n index pc mc ms : Nat} {ret : Option FieldType} {wsC : List Cond} {rm : Room} {Ts : List Cond} {own C : String} {b : Addr} {As rest st : List Value} {ls : Array Slot}
variable {D : va_G} {wall ws ws' ws1 wrst : va_W} {tys : List (ClassId × FieldType)} {q0 ci : Nat} {T : u_T} {NN : Nat} {fs : List Value} {A A0 : Nat → Prop} {H0 : Heap}
theorem wr_ret {post : Int32 → Prop} (hexec : p.tables.exec = Jvm.exec) (hb : c.code = cc) (hr : meth.sig.returnType = some .int) (hlocks : meth.locks = false) {v : Int32} (hv : post v) (hw : ws1 = ws') (hP : va_P D vwCl ws1 H) (hK : va_K D vwCl tys s) (hD : va_D A ws1) (hS : va_S A s.heap H locs) (hdg : decode cc pc = .ok (.ireturn, 1)) :
    W p l e R s m args below meth c H locs cells slots (MQ below (wrQ D ws' tys A post) args s cells slots A) (F0 m pc ls [.int v]) := by
  subst hw
  exact W.iret hexec hb hr (fun t ht hW => ⟨⟨v, (), rfl, hv, by rw [ht]; exact hP, va_K.moved hW.alike hK, hD⟩, hS.F ht⟩) hS.2.2 hdg hlocks
theorem wr_retz {post : Int32 → Prop} (hexec : p.tables.exec = Jvm.exec) (hb : c.code = cc) (hr : meth.sig.returnType = some .boolean) (hlocks : meth.locks = false) {v : Int32} (hn : narrow .boolean (.int v) = .int v) (hv : post v) (hw : ws1 = ws') (hP : va_P D vwCl ws1 H) (hK : va_K D vwCl tys s) (hD : va_D A ws1) (hS : va_S A s.heap H locs) (hdg : decode cc pc = .ok (.ireturn, 1)) :
    W p l e R s m args below meth c H locs cells slots (MQ below (wrQ D ws' tys A post) args s cells slots A) (F0 m pc ls [.int v]) := by
  subst hw
  exact W.zret hexec hb hr hn (fun t ht hW => ⟨⟨v, (), rfl, hv, by rw [ht]; exact hP, va_K.moved hW.alike hK, hD⟩, hS.F ht⟩) hS.2.2 hdg hlocks
theorem wr_retl {post : Int64 → Prop} (hexec : p.tables.exec = Jvm.exec) (hb : c.code = cc) (hr : meth.sig.returnType = some .long) (hlocks : meth.locks = false) {v : Int64} (hv : post v) (hw : ws1 = ws') (hP : va_P D vwCl ws1 H) (hK : va_K D vwCl tys s) (hD : va_D A ws1) (hS : va_S A s.heap H locs) (hdg : decode cc pc = .ok (.lreturn, 1)) :
    W p l e R s m args below meth c H locs cells slots (MQ below (wrL D ws' tys A post) args s cells slots A) (F0 m pc ls [.long v]) := by
  subst hw
  exact W.lret hexec hb hr (fun t ht hW => ⟨⟨v, (), rfl, hv, by rw [ht]; exact hP, va_K.moved hW.alike hK, hD⟩, hS.F ht⟩) hS.2.2 hdg hlocks
/-- a call that owns the places isC of the world; what stands at isR stays -/
theorem wr_callV {post : Int32 → Prop} (S : CallFix p m c cc nL s args Ts own) (hM : Met l y wsC rm (wr D ws tys H.size (.ref b :: As)) (wrQ D ws' tys (va_A ws H.size) post) mc ms (va_A ws H.size)) (cw : CallW R s args own C index y bytes maxL ret wsC rm mc ms n)
    (hK : va_K D vwCl tys s) (hP : va_P D vwCl wall H) (hD : va_D A0 wall) (hS : va_S A0 H0 H locs) (hA : ∀ q, H0.size ≤ q → A0 q) (isC isR : List Nat) (hC : isC.map (fun i => wall[i]?) = ws.map some) (hR : isR.map (fun i => wall[i]?) = wrst.map some) (h1 : va_nd isC = true) (h2 : va_nd isR = true) (hdis : ∀ i ∈ isR, i ∉ isC)
    (hc : vwCl[ci]? = some (C, T, NN)) (he : ws[q0]? = some (b, .inr (ci, fs))) (hn : As.length = n) (hsize : ls.size = nL) (hst : st = As.reverse ++ .ref b :: rest) (hW : (rest.map fun v => v.category).sum ≤ 8) (hdg : decode cc pc = .ok (.invokevirtual index, 3)) (hf : cells + mc ≤ R.cells ∧ slots + ms ≤ R.slots)
    (kk : ∀ (r : Int32) (H1 : Heap) (locs1 : List Loc), post r → va_P D vwCl (wrst ++ ws') H1 → va_D A0 (wrst ++ ws') → va_S A0 H0 H1 locs1 → W p l e R s m args below meth c H1 locs1 (cells + mc) (slots + ms) Q (F0 m (pc + 3) ls (.int r :: rest))) : W p l e R s m args below meth c H locs cells slots Q (F0 m pc ls st) := by
  have hPc : va_P D vwCl ws H := hP.sub isC (sub_of hC)
  have hDc : va_D A0 ws := hD.sub isC h1 hC
  have hFc := va_free (wc := ws) hD hS hA isC hC
  refine va_calli (va_runV (As := As) (rest := rest) S hM cw ⟨wr_blind, va_recv hK hPc hc he, fun U hU hW => ⟨rfl, by rw [hU], by rw [hU]; exact hPc, va_K.moved hW.alike hK, hDc.weaken (fun _ _ _ _ => trivial)⟩⟩ rfl hn hsize hst (lv_room hW) hdg hf) hS (fun q _ h => hFc q h) hFc (fun r u t H1 locs1 ht hvm hw hB hz hk hS1 => ?_)
  obtain ⟨hP1, hK1, hD1⟩ := hB
  rw [ht] at hP1
  obtain ⟨hP2, hD2⟩ := va_join hP hD isC isR hC hR h2 hdis hk hFc hP1 hD1
  exact kk r H1 locs1 hw hP2 hD2 hS1
theorem wr_callVl {post : Int64 → Prop} (S : CallFix p m c cc nL s args Ts own) (hM : Met l y wsC rm (wr D ws tys H.size (.ref b :: As)) (wrL D ws' tys (va_A ws H.size) post) mc ms (va_A ws H.size)) (cw : CallW R s args own C index y bytes maxL ret wsC rm mc ms n)
    (hK : va_K D vwCl tys s) (hP : va_P D vwCl wall H) (hD : va_D A0 wall) (hS : va_S A0 H0 H locs) (hA : ∀ q, H0.size ≤ q → A0 q) (isC isR : List Nat) (hC : isC.map (fun i => wall[i]?) = ws.map some) (hR : isR.map (fun i => wall[i]?) = wrst.map some) (h1 : va_nd isC = true) (h2 : va_nd isR = true) (hdis : ∀ i ∈ isR, i ∉ isC)
    (hc : vwCl[ci]? = some (C, T, NN)) (he : ws[q0]? = some (b, .inr (ci, fs))) (hn : As.length = n) (hsize : ls.size = nL) (hst : st = As.reverse ++ .ref b :: rest) (hW : (rest.map fun v => v.category).sum ≤ 8) (hdg : decode cc pc = .ok (.invokevirtual index, 3)) (hf : cells + mc ≤ R.cells ∧ slots + ms ≤ R.slots)
    (kk : ∀ (r : Int64) (H1 : Heap) (locs1 : List Loc), post r → va_P D vwCl (wrst ++ ws') H1 → va_D A0 (wrst ++ ws') → va_S A0 H0 H1 locs1 → W p l e R s m args below meth c H1 locs1 (cells + mc) (slots + ms) Q (F0 m (pc + 3) ls (.long r :: rest))) : W p l e R s m args below meth c H locs cells slots Q (F0 m pc ls st) := by
  have hPc : va_P D vwCl ws H := hP.sub isC (sub_of hC)
  have hDc : va_D A0 ws := hD.sub isC h1 hC
  have hFc := va_free (wc := ws) hD hS hA isC hC
  refine va_calll (va_runV (As := As) (rest := rest) S hM cw ⟨wr_blind, va_recv hK hPc hc he, fun U hU hW => ⟨rfl, by rw [hU], by rw [hU]; exact hPc, va_K.moved hW.alike hK, hDc.weaken (fun _ _ _ _ => trivial)⟩⟩ rfl hn hsize hst (lv_room hW) hdg hf) hS (fun q _ h => hFc q h) hFc (fun r u t H1 locs1 ht hvm hw hB hz hk hS1 => ?_)
  obtain ⟨hP1, hK1, hD1⟩ := hB
  rw [ht] at hP1
  obtain ⟨hP2, hD2⟩ := va_join hP hD isC isR hC hR h2 hdis hk hFc hP1 hD1
  exact kk r H1 locs1 hw hP2 hD2 hS1
/-- System.arraycopy of longs, by natural numbers -/
theorem ix_copyl (hexec : p.tables.exec = Jvm.exec) (hb : c.code = cc) (hml : c.maxLocals = ls.size) (hown : s.vm.findClass own = some m.cls) (hlink : (Cond.methodLink own index arraycopyName).before args s = true) (hnat : (Cond.native arraycopyName).before args s = true) (hstat : (Cond.static arraycopyName).before args s = true) (hini : (Cond.initialized "java/lang/System").before args s = true)
    (hK : va_K D vwCl tys s) (hP : va_P D vwCl ws H) (hD : va_D A ws) (hS : va_S A H0 H locs) (q0 q1 t0 : Nat) {a a0 : Nat} {c0 : ClassId} {n0 n1 : Nat} {f g : Nat → Int64} (ha0 : ws[q0]? = some (a0, .inl (c0, n0, .inr (.inl f)))) (ha1 : ws[q1]? = some (a, .inl (c0, n1, .inr (.inl g)))) (ht0 : tys[t0]? = some (c0, .long))
    {sp dp k : Nat} (h4 : sp + k ≤ n0) (h5 : dp + k ≤ n1) (hb0 : n0 < 2 ^ 31) (hb1 : n1 < 2 ^ 31)
    (hframes : 1 ≤ R.frames) (hlocals : (rest.map fun v => v.category).sum + (nativeFrameWords "java/lang/System" "arraycopy" 5 + 11) ≤ R.locals) (hdg : decode cc pc = .ok (.invokestatic index, 3))
    (kk : ∀ (H1 : Heap) (locs1 : List Loc), va_P D vwCl (ws.set q1 (a, .inl (c0, n1, .inr (.inl (va_cpy f g sp dp k))))) H1 → va_D A (ws.set q1 (a, .inl (c0, n1, .inr (.inl (va_cpy f g sp dp k))))) → va_S A H0 H1 locs1 → W p l e R s m args below meth c H1 locs1 cells slots Q (F0 m (pc + 3) ls rest)) : W p l e R s m args below meth c H locs cells slots Q (F0 m pc ls (.int (nI k) :: .int (nI dp) :: .ref a :: .int (nI sp) :: .ref a0 :: rest)) :=
  va_copyl hexec hb hml hown hlink hnat hstat hini hK hP hD hS q0 q1 t0 t0 ha0 ha1 ht0 ht0 rfl (nI_pos (by omega)) (nI_pos (by omega)) (nI_pos (by omega)) (by rw [nI_clamp (by omega), nI_clamp (by omega)]; exact h4) (by rw [nI_clamp (by omega), nI_clamp (by omega)]; exact h5) (fun i _ => rfl) hframes hlocals hdg
    (by rw [nI_clamp (by omega), nI_clamp (by omega), nI_clamp (by omega)]; exact kk)
end R9
end
section
def ga_look (F : Nat → Int32) (n : Nat) (q : Int32) : Int32 := if q = nI 0 then nI n else if q = nI 1 then nI (ga_diff F n) else if q = nI 2 then ga_great F 0 n else if q = nI 3 then ga_great F 1 n else -1
set_option maxHeartbeats 4000000 in
set_option maxRecDepth 100000 in
theorem k_X0_squares (l : Launch) (dC : Nat → ClassId) (dI : Nat → Nat → Nat) (cI cJ : ClassId) (x g t f : Nat) (G T : Nat → Int64) (F : Nat → Int32) (n : Nat) (q : Int32) (mn : Int64) (sz : Nat)  : Met l yX0_squares wsX0_squares ({ frames := 2, cells := 0, slots := 0, locals := 45 } : Room) (wr (dC, dI) (wX cI cJ x g t f G T F n) (tK cI cJ) sz [.ref x, .int q, .long mn]) (wrQ (dC, dI) (wX cI cJ x g t f (ga_sqG G q mn) T F n) (tK cI cJ) (va_A (wX cI cJ x g t f G T F n) sz) (fun r => r = ga_sqR q mn)) 0 0 (va_A (wX cI cJ x g t f G T F n) sz) := by
  refine Met.ofW (cc := cX0_squares) (maxL := 4) (ret := (some .boolean)) (by decide) rfl ?_
  intro p e s m args below meth c s₁ B hml hv
  obtain ⟨rfl, hsz, hP, hK, hD0⟩ := hv
  have hx := B.exec
  have hb := B.bytes
  have hr := B.returns
  have hts := atoms_spec (ws := wsX0_squares) B.pre
  have hown : s.vm.findClass RX0 = some m.cls := findClass_of_methodNamed B.named
  have hlocks := B.notSynchronized
  have hinX0 : ∀ w ∈ u_ws RX0 TX0 4, w ∈ wsX0_squares := by decide +kernel
  have hf9 := hts (.fieldLink RX0 9 "GameArbiter" "given" "[J") (by decide +kernel)
  have hl := lv_entry ([.ref x, .int q, .long mn]) (n := 4) (Nat.le_of_ble_eq_true rfl)
  rw [lg_entry_eq]
  generalize (lg_sl ([.ref x, .int q, .long mn]) ++ List.replicate (4 - (lg_sl ([.ref x, .int q, .long mn])).length) Slot.unset).toArray = ls at hl ⊢
  replace hl : lv_has ls 4 [(0, .ref x), (1, .int q), (2, .long mn)] := hl
  subst hsz
  have hD := hD0.self (sz := s.heap.size)
  generalize hAe : va_A (wX cI cJ x g t f G T F n) s.heap.size = A at hD ⊢
  have hA : ∀ q : Nat, s.heap.size ≤ q → A q := fun q h => by rw [← hAe]; exact Or.inr h
  have hS : va_S A s.heap s.heap [] := va_S.rf
  replace hP : va_P (dC, dI) vwCl [(x, .inr (0, [.ref g, .ref t, .ref f, .int (nI n)])), (g, .inl (cJ, 4, .inr (.inl G))), (t, .inl (cJ, 2560, .inr (.inl T))), (f, .inl (cI, 5120, .inl F))] s.heap := hP
  replace hD : va_D A [(x, .inr (0, [.ref g, .ref t, .ref f, .int (nI n)])), (g, .inl (cJ, 4, .inr (.inl G))), (t, .inl (cJ, 2560, .inr (.inl T))), (f, .inl (cI, 5120, .inl F))] := hD
  refine lv_iload_n hx hb dX0_squares_0 rfl (lv_at hl 1 rfl) ?_
  refine pu_callS (rest := []) ⟨hx, hb, hml, hown, hts⟩ (k_X0_isPart l q) (va_cwS 1 hts gX0_squares_X0_isPart rfl rfl rfl (by decide +kernel) ⟨Nat.le_of_ble_eq_true rfl, Nat.le_of_ble_eq_true rfl⟩) rfl hl.1 rfl (Nat.le_of_ble_eq_true rfl) dX0_squares_1 ⟨Nat.zero_le _, Nat.zero_le _⟩ ?_
  refine lv_if_eq (tgt := 14) hx hb dX0_squares_4 (by decide) (fun c_1 => ?_) (fun c_1 => ?_)
  · refine lv_iconst (v := nI 0) hx hb dX0_squares_14 (by decide) ?_
    exact wr_retz hx hb hr hlocks rfl (by rw [ga_sqR, if_pos c_1]) (by rw [ga_sqG, if_pos c_1]) hP hK hD hS dX0_squares_15
  · obtain ⟨a, ha, rfl⟩ := ga_isPart_nat c_1
    refine lv_lload_n hx hb dX0_squares_7 rfl (lv_at hl 2 rfl) ?_
    refine pu_callS (rest := []) ⟨hx, hb, hml, hown, hts⟩ (k_X0_areMen l mn) (va_cwS 1 hts gX0_squares_X0_areMen rfl rfl rfl (by decide +kernel) ⟨Nat.le_of_ble_eq_true rfl, Nat.le_of_ble_eq_true rfl⟩) rfl hl.1 rfl (Nat.le_of_ble_eq_true rfl) dX0_squares_8 ⟨Nat.zero_le _, Nat.zero_le _⟩ ?_
    refine lv_if_ne (tgt := 16) hx hb dX0_squares_11 (by decide) (fun c_2 => ?_) (fun c_2 => ?_)
    · refine lv_aload_n hx hb dX0_squares_16 rfl (lv_at hl 0 rfl) ?_
      refine va_get (D := (dC, dI)) (ci := 0) (v := .ref g) (C := RX0) (T := TX0) (N := 4) hx hb hts hinX0 hown hK hP 0 rfl rfl 0 (by decide) hf9 (fun _ h9 => h9) rfl dX0_squares_17 ?_
      refine lv_iload_n hx hb dX0_squares_20 rfl (lv_at hl 1 rfl) ?_
      refine lv_lload_n hx hb dX0_squares_21 rfl (lv_at hl 2 rfl) ?_
      refine ix_last hx hb hK hP hD hS 1 0 rfl rfl (show a < 4 by omega) (by decide) dX0_squares_22 (fun H locs hP hD hS => ?_)
      replace hP : va_P (dC, dI) vwCl [(x, .inr (0, [.ref g, .ref t, .ref f, .int (nI n)])), (g, .inl (cJ, 4, .inr (.inl (vp_updL G a mn)))), (t, .inl (cJ, 2560, .inr (.inl T))), (f, .inl (cI, 5120, .inl F))] H := hP
      replace hD : va_D A [(x, .inr (0, [.ref g, .ref t, .ref f, .int (nI n)])), (g, .inl (cJ, 4, .inr (.inl (vp_updL G a mn)))), (t, .inl (cJ, 2560, .inr (.inl T))), (f, .inl (cI, 5120, .inl F))] := hD
      refine lv_iconst (v := nI 1) hx hb dX0_squares_23 (by decide) ?_
      exact wr_retz hx hb hr hlocks rfl (by rw [ga_sqR, if_neg c_1, if_neg c_2]) (by rw [ga_sqG, if_neg c_1, if_neg c_2, nI_clamp (by omega)]) hP hK hD hS dX0_squares_24
    · refine lv_iconst (v := nI 0) hx hb dX0_squares_14 (by decide) ?_
      exact wr_retz hx hb hr hlocks rfl (by rw [ga_sqR, if_neg c_1, if_pos c_2]) (by rw [ga_sqG, if_neg c_1, if_pos c_2]) hP hK hD hS dX0_squares_15
set_option maxHeartbeats 4000000 in
set_option maxRecDepth 100000 in
theorem k_X0_back (l : Launch) (dC : Nat → ClassId) (dI : Nat → Nat → Nat) (cI cJ : ClassId) (x g t f : Nat) (G T : Nat → Int64) (F : Nat → Int32) (n : Nat) (sz : Nat) (hn : n ≤ 640) : Met l yX0_back wsX0_back ({ frames := 0, cells := 0, slots := 0, locals := 0 } : Room) (wr (dC, dI) (wX cI cJ x g t f G T F n) (tK cI cJ) sz [.ref x]) (wrQ (dC, dI) (wX cI cJ x g t f G T F (n - 1)) (tK cI cJ) (va_A (wX cI cJ x g t f G T F n) sz) (fun r => r = if n = 0 then nI 0 else nI 1)) 0 0 (va_A (wX cI cJ x g t f G T F n) sz) := by
  refine Met.ofW (cc := cX0_back) (maxL := 1) (ret := (some .boolean)) (by decide) rfl ?_
  intro p e s m args below meth c s₁ B hml hv
  obtain ⟨rfl, hsz, hP, hK, hD0⟩ := hv
  have hx := B.exec
  have hb := B.bytes
  have hr := B.returns
  have hts := atoms_spec (ws := wsX0_back) B.pre
  have hown : s.vm.findClass RX0 = some m.cls := findClass_of_methodNamed B.named
  have hlocks := B.notSynchronized
  have hinX0 : ∀ w ∈ u_ws RX0 TX0 4, w ∈ wsX0_back := by decide +kernel
  have hf20 := hts (.fieldLink RX0 20 "GameArbiter" "positions" "I") (by decide +kernel)
  have hl := lv_entry ([.ref x]) (n := 1) (Nat.le_of_ble_eq_true rfl)
  rw [lg_entry_eq]
  generalize (lg_sl ([.ref x]) ++ List.replicate (1 - (lg_sl ([.ref x])).length) Slot.unset).toArray = ls at hl ⊢
  replace hl : lv_has ls 1 [(0, .ref x)] := hl
  subst hsz
  have hD := hD0.self (sz := s.heap.size)
  generalize hAe : va_A (wX cI cJ x g t f G T F n) s.heap.size = A at hD ⊢
  have hA : ∀ q : Nat, s.heap.size ≤ q → A q := fun q h => by rw [← hAe]; exact Or.inr h
  have hS : va_S A s.heap s.heap [] := va_S.rf
  replace hP : va_P (dC, dI) vwCl [(x, .inr (0, [.ref g, .ref t, .ref f, .int (nI n)])), (g, .inl (cJ, 4, .inr (.inl G))), (t, .inl (cJ, 2560, .inr (.inl T))), (f, .inl (cI, 5120, .inl F))] s.heap := hP
  replace hD : va_D A [(x, .inr (0, [.ref g, .ref t, .ref f, .int (nI n)])), (g, .inl (cJ, 4, .inr (.inl G))), (t, .inl (cJ, 2560, .inr (.inl T))), (f, .inl (cI, 5120, .inl F))] := hD
  refine lv_aload_n hx hb dX0_back_0 rfl (lv_at hl 0 rfl) ?_
  refine va_get (D := (dC, dI)) (ci := 0) (v := .int (nI n)) (C := RX0) (T := TX0) (N := 4) hx hb hts hinX0 hown hK hP 0 rfl rfl 3 (by decide) hf20 (fun _ h9 => h9) rfl dX0_back_1 ?_
  refine lv_if_ne (tgt := 9) hx hb dX0_back_4 (by decide) (fun c_1 => ?_) (fun c_1 => ?_)
  · have c_1 : ¬ (n = 0) := fun h => c_1 ((nz_eq (show n < 2 ^ 31 by omega)).mpr h)
    refine lv_aload_n hx hb dX0_back_9 rfl (lv_at hl 0 rfl) ?_
    refine lv_dup hx hb dX0_back_10 rfl ?_
    refine va_get (D := (dC, dI)) (ci := 0) (v := .int (nI n)) (C := RX0) (T := TX0) (N := 4) hx hb hts hinX0 hown hK hP 0 rfl rfl 3 (by decide) hf20 (fun _ h9 => h9) rfl dX0_back_11 ?_
    refine lv_iconst (v := nI 1) hx hb dX0_back_14 (by decide) ?_
    refine lv_isub hx hb dX0_back_15 ?_
    refine lv_is (pk_sub (by omega)) ?_
    refine va_put (D := (dC, dI)) (ci := 0) (v := .int (nI (n - 1))) (ty := .int) (C := RX0) (T := TX0) (N := 4) hx hb hts hinX0 tyX0 tyX0_ok nmX0 hown hK hP hD hS 0 rfl rfl 3 (by decide) hf20 (fun _ h9 => h9) rfl (by decide +kernel) rfl rfl (Nat.le_of_ble_eq_true rfl) dX0_back_16 (fun H locs hP hD hS => ?_)
    replace hP : va_P (dC, dI) vwCl [(x, .inr (0, [.ref g, .ref t, .ref f, .int (nI (n - 1))])), (g, .inl (cJ, 4, .inr (.inl G))), (t, .inl (cJ, 2560, .inr (.inl T))), (f, .inl (cI, 5120, .inl F))] H := hP
    replace hD : va_D A [(x, .inr (0, [.ref g, .ref t, .ref f, .int (nI (n - 1))])), (g, .inl (cJ, 4, .inr (.inl G))), (t, .inl (cJ, 2560, .inr (.inl T))), (f, .inl (cI, 5120, .inl F))] := hD
    refine lv_iconst (v := nI 1) hx hb dX0_back_19 (by decide) ?_
    exact wr_retz hx hb hr hlocks rfl (by rw [if_neg c_1]) (rfl) hP hK hD hS dX0_back_20
  · have c_1 : n = 0 := (nz_eq (show n < 2 ^ 31 by omega)).mp c_1
    refine lv_iconst (v := nI 0) hx hb dX0_back_7 (by decide) ?_
    exact wr_retz hx hb hr hlocks rfl (by rw [if_pos c_1]) (by rw [show n - 1 = n by omega]) hP hK hD hS dX0_back_8
set_option maxHeartbeats 4000000 in
set_option maxRecDepth 100000 in
theorem k_X0_append (l : Launch) (dC : Nat → ClassId) (dI : Nat → Nat → Nat) (cI cJ : ClassId) (x g t f : Nat) (G T : Nat → Int64) (F : Nat → Int32) (n : Nat) (st mv ck cl : Int32) (sz : Nat) (hn : n < 640) : Met l yX0_append wsX0_append ({ frames := 4, cells := 0, slots := 0, locals := 90 } : Room) (wr (dC, dI) (wX cI cJ x g t f G T F n) (tK cI cJ) sz [.ref x, .int st, .int mv, .int ck, .int cl]) (wrQ (dC, dI) (wX cI cJ x g t f G (ap_T G T n) (ap_F G T F n st mv ck cl) (n + 1)) (tK cI cJ) (va_A (wX cI cJ x g t f G T F n) sz) (fun r => r = ap_vd G T F n st mv ck cl)) 0 0 (va_A (wX cI cJ x g t f G T F n) sz) := by
  refine Met.ofW (cc := cX0_append) (maxL := 12) (ret := (some .int)) (by decide) rfl ?_
  intro p e s m args below meth c s₁ B hml hv
  obtain ⟨rfl, hsz, hP, hK, hD0⟩ := hv
  have hx := B.exec
  have hb := B.bytes
  have hr := B.returns
  have hts := atoms_spec (ws := wsX0_append) B.pre
  have hown : s.vm.findClass RX0 = some m.cls := findClass_of_methodNamed B.named
  have hlocks := B.notSynchronized
  have hinX0 : ∀ w ∈ u_ws RX0 TX0 4, w ∈ wsX0_append := by decide +kernel
  have hf9 := hts (.fieldLink RX0 9 "GameArbiter" "given" "[J") (by decide +kernel)
  have hf13 := hts (.fieldLink RX0 13 "GameArbiter" "told" "[J") (by decide +kernel)
  have hf16 := hts (.fieldLink RX0 16 "GameArbiter" "facts" "[I") (by decide +kernel)
  have hf20 := hts (.fieldLink RX0 20 "GameArbiter" "positions" "I") (by decide +kernel)
  have hl := lv_entry ([.ref x, .int st, .int mv, .int ck, .int cl]) (n := 12) (Nat.le_of_ble_eq_true rfl)
  rw [lg_entry_eq]
  generalize (lg_sl ([.ref x, .int st, .int mv, .int ck, .int cl]) ++ List.replicate (12 - (lg_sl ([.ref x, .int st, .int mv, .int ck, .int cl])).length) Slot.unset).toArray = ls at hl ⊢
  replace hl : lv_has ls 12 [(0, .ref x), (1, .int st), (2, .int mv), (3, .int ck), (4, .int cl)] := hl
  subst hsz
  have hD := hD0.self (sz := s.heap.size)
  generalize hAe : va_A (wX cI cJ x g t f G T F n) s.heap.size = A at hD ⊢
  have hA : ∀ q : Nat, s.heap.size ≤ q → A q := fun q h => by rw [← hAe]; exact Or.inr h
  have hS : va_S A s.heap s.heap [] := va_S.rf
  replace hP : va_P (dC, dI) vwCl [(x, .inr (0, [.ref g, .ref t, .ref f, .int (nI n)])), (g, .inl (cJ, 4, .inr (.inl G))), (t, .inl (cJ, 2560, .inr (.inl T))), (f, .inl (cI, 5120, .inl F))] s.heap := hP
  replace hD : va_D A [(x, .inr (0, [.ref g, .ref t, .ref f, .int (nI n)])), (g, .inl (cJ, 4, .inr (.inl G))), (t, .inl (cJ, 2560, .inr (.inl T))), (f, .inl (cI, 5120, .inl F))] := hD
  refine lv_aload_n hx hb dX0_append_0 rfl (lv_at hl 0 rfl) ?_
  refine va_get (D := (dC, dI)) (ci := 0) (v := .int (nI n)) (C := RX0) (T := TX0) (N := 4) hx hb hts hinX0 hown hK hP 0 rfl rfl 3 (by decide) hf20 (fun _ h9 => h9) rfl dX0_append_1 ?_
  refine lv_istore (lv' := [(5, .int (nI n)), (0, .ref x), (1, .int st), (2, .int mv), (3, .int ck), (4, .int cl)]) hx hb dX0_append_4 hl (by decide) rfl (fun ls hl => ?_)
  refine lv_aload_n hx hb dX0_append_6 rfl (lv_at hl 1 rfl) ?_
  refine lv_iload_n hx hb dX0_append_7 rfl (lv_at hl 2 rfl) ?_
  refine rd_callV (rest := []) ⟨hx, hb, hml, hown, hts⟩ (k_X0_lastSame l dC dI cI cJ x g t f G T F n st (by omega)) (cwV 1 hts gX0_append_X0_lastSame rfl rfl rfl (by decide +kernel) ⟨Nat.le_of_ble_eq_true rfl, Nat.le_of_ble_eq_true rfl⟩) hK hP rfl (q0 := 0) rfl rfl hl.1 rfl (Nat.le_of_ble_eq_true rfl) dX0_append_8 ⟨Nat.zero_le _, Nat.zero_le _⟩ ?_
  refine lv_istore (lv' := [(6, .int (ga_last G T F st n)), (5, .int (nI n)), (0, .ref x), (1, .int st), (2, .int mv), (3, .int ck), (4, .int cl)]) hx hb dX0_append_11 hl (by decide) rfl (fun ls hl => ?_)
  refine lv_aload_n hx hb dX0_append_13 rfl (lv_at hl 2 rfl) ?_
  refine lv_iload hx hb dX0_append_14 (lv_at hl 0 rfl) ?_
  refine rd_callV (rest := []) ⟨hx, hb, hml, hown, hts⟩ (k_X0_countUpTo l dC dI cI cJ x g t f G T F n (ga_last G T F st n) (by omega)) (cwV 1 hts gX0_append_X0_countUpTo rfl rfl rfl (by decide +kernel) ⟨Nat.le_of_ble_eq_true rfl, Nat.le_of_ble_eq_true rfl⟩) hK hP rfl (q0 := 0) rfl rfl hl.1 rfl (Nat.le_of_ble_eq_true rfl) dX0_append_16 ⟨Nat.zero_le _, Nat.zero_le _⟩ ?_
  refine lv_iconst (v := nI 1) hx hb dX0_append_19 (by decide) ?_
  refine lv_iadd hx hb dX0_append_20 ?_
  refine lv_istore (lv' := [(7, .int ((ga_cup F n (ga_last G T F st n)) + (nI 1))), (6, .int (ga_last G T F st n)), (5, .int (nI n)), (0, .ref x), (1, .int st), (2, .int mv), (3, .int ck), (4, .int cl)]) hx hb dX0_append_21 hl (by decide) rfl (fun ls hl => ?_)
  refine lv_bipush (v := nI 64) hx hb dX0_append_23 (by decide) ?_
  refine lv_aload_n hx hb dX0_append_25 rfl (lv_at hl 3 rfl) ?_
  refine lv_iconst (v := nI 0) hx hb dX0_append_26 (by decide) ?_
  have hcnnI0 := ga_cnt_le G (nI 0) 64
  refine rd_callV (rest := [.int (nI 64)]) ⟨hx, hb, hml, hown, hts⟩ (k_X0_countGiven l dC dI cI cJ x g t f G T F n (nI 0)) (cwV 1 hts gX0_append_X0_countGiven rfl rfl rfl (by decide +kernel) ⟨Nat.le_of_ble_eq_true rfl, Nat.le_of_ble_eq_true rfl⟩) hK hP rfl (q0 := 0) rfl rfl hl.1 rfl (Nat.le_of_ble_eq_true rfl) dX0_append_27 ⟨Nat.zero_le _, Nat.zero_le _⟩ ?_
  refine lv_isub hx hb dX0_append_30 ?_
  refine lv_is (pk_sub (by omega)) ?_
  refine lv_istore (lv' := [(8, .int (nI (64 - (ga_cnt G (nI 0) 64)))), (7, .int ((ga_cup F n (ga_last G T F st n)) + (nI 1))), (6, .int (ga_last G T F st n)), (5, .int (nI n)), (0, .ref x), (1, .int st), (2, .int mv), (3, .int ck), (4, .int cl)]) hx hb dX0_append_31 hl (by decide) rfl (fun ls hl => ?_)
  refine lv_aload_n hx hb dX0_append_33 rfl (lv_at hl 4 rfl) ?_
  refine lv_iload hx hb dX0_append_34 (lv_at hl 0 rfl) ?_
  refine rd_callV (rest := []) ⟨hx, hb, hml, hown, hts⟩ (k_X0_isGivenDead l dC dI cI cJ x g t f G T F n (nI (64 - (ga_cnt G (nI 0) 64)))) (cwV 1 hts gX0_append_X0_isGivenDead rfl rfl rfl (by decide +kernel) ⟨Nat.le_of_ble_eq_true rfl, Nat.le_of_ble_eq_true rfl⟩) hK hP rfl (q0 := 0) rfl rfl hl.1 rfl (Nat.le_of_ble_eq_true rfl) dX0_append_36 ⟨Nat.zero_le _, Nat.zero_le _⟩ ?_
  refine lv_istore (lv' := [(9, .int (ga_dead G (nI (64 - (ga_cnt G (nI 0) 64))))), (8, .int (nI (64 - (ga_cnt G (nI 0) 64)))), (7, .int ((ga_cup F n (ga_last G T F st n)) + (nI 1))), (6, .int (ga_last G T F st n)), (5, .int (nI n)), (0, .ref x), (1, .int st), (2, .int mv), (3, .int ck), (4, .int cl)]) hx hb dX0_append_39 hl (by decide) rfl (fun ls hl => ?_)
  refine lv_iload_n hx hb dX0_append_41 rfl (lv_at hl 7 rfl) ?_
  refine lv_iload_n hx hb dX0_append_42 rfl (lv_at hl 8 rfl) ?_
  refine lv_iload hx hb dX0_append_43 (lv_at hl 0 rfl) ?_
  refine lv_iload hx hb dX0_append_45 (lv_at hl 2 rfl) ?_
  refine lv_iload hx hb dX0_append_47 (lv_at hl 9 rfl) ?_
  refine pu_callS (rest := []) ⟨hx, hb, hml, hown, hts⟩ (k_X0_judge l mv ck (ga_dead G (nI (64 - (ga_cnt G (nI 0) 64)))) ((ga_cup F n (ga_last G T F st n)) + (nI 1)) cl) (va_cwS 5 hts gX0_append_X0_judge rfl rfl rfl (by decide +kernel) ⟨Nat.le_of_ble_eq_true rfl, Nat.le_of_ble_eq_true rfl⟩) rfl hl.1 rfl (Nat.le_of_ble_eq_true rfl) dX0_append_49 ⟨Nat.zero_le _, Nat.zero_le _⟩ ?_
  refine lv_istore (lv' := [(10, .int (ga_judge mv ck (ga_dead G (nI (64 - (ga_cnt G (nI 0) 64)))) ((ga_cup F n (ga_last G T F st n)) + (nI 1)) cl)), (9, .int (ga_dead G (nI (64 - (ga_cnt G (nI 0) 64))))), (8, .int (nI (64 - (ga_cnt G (nI 0) 64)))), (7, .int ((ga_cup F n (ga_last G T F st n)) + (nI 1))), (6, .int (ga_last G T F st n)), (5, .int (nI n)), (0, .ref x), (1, .int st), (2, .int mv), (3, .int ck), (4, .int cl)]) hx hb dX0_append_52 hl (by decide) rfl (fun ls hl => ?_)
  refine lv_iload hx hb dX0_append_54 (lv_at hl 5 rfl) ?_
  refine lv_bipush (v := nI 8) hx hb dX0_append_56 (by decide) ?_
  refine lv_imul hx hb dX0_append_58 ?_
  refine lv_is (pk_mul _ _) ?_
  refine lv_istore (lv' := [(11, .int (nI (n * 8))), (10, .int (ga_judge mv ck (ga_dead G (nI (64 - (ga_cnt G (nI 0) 64)))) ((ga_cup F n (ga_last G T F st n)) + (nI 1)) cl)), (9, .int (ga_dead G (nI (64 - (ga_cnt G (nI 0) 64))))), (8, .int (nI (64 - (ga_cnt G (nI 0) 64)))), (7, .int ((ga_cup F n (ga_last G T F st n)) + (nI 1))), (6, .int (ga_last G T F st n)), (5, .int (nI n)), (0, .ref x), (1, .int st), (2, .int mv), (3, .int ck), (4, .int cl)]) hx hb dX0_append_59 hl (by decide) rfl (fun ls hl => ?_)
  refine lv_aload_n hx hb dX0_append_61 rfl (lv_at hl 7 rfl) ?_
  refine va_get (D := (dC, dI)) (ci := 0) (v := .ref f) (C := RX0) (T := TX0) (N := 4) hx hb hts hinX0 hown hK hP 0 rfl rfl 2 (by decide) hf16 (fun _ h9 => h9) rfl dX0_append_62 ?_
  refine lv_iload hx hb dX0_append_65 (lv_at hl 0 rfl) ?_
  refine lv_iconst (v := nI 0) hx hb dX0_append_67 (by decide) ?_
  refine lv_iadd hx hb dX0_append_68 ?_
  refine lv_is (nI_add _ _) ?_
  refine lv_iload hx hb dX0_append_69 (lv_at hl 4 rfl) ?_
  refine ix_iast hx hb hK hP hD hS 3 1 rfl rfl (show (n * 8) + 0 < 5120 by omega) (by decide) dX0_append_71 (fun H locs hP hD hS => ?_)
  replace hP : va_P (dC, dI) vwCl [(x, .inr (0, [.ref g, .ref t, .ref f, .int (nI n)])), (g, .inl (cJ, 4, .inr (.inl G))), (t, .inl (cJ, 2560, .inr (.inl T))), (f, .inl (cI, 5120, .inl (upd F ((n * 8) + 0) ((ga_cup F n (ga_last G T F st n)) + (nI 1)))))] H := hP
  replace hD : va_D A [(x, .inr (0, [.ref g, .ref t, .ref f, .int (nI n)])), (g, .inl (cJ, 4, .inr (.inl G))), (t, .inl (cJ, 2560, .inr (.inl T))), (f, .inl (cI, 5120, .inl (upd F ((n * 8) + 0) ((ga_cup F n (ga_last G T F st n)) + (nI 1)))))] := hD
  refine lv_aload_n hx hb dX0_append_72 rfl (lv_at hl 7 rfl) ?_
  refine va_get (D := (dC, dI)) (ci := 0) (v := .ref f) (C := RX0) (T := TX0) (N := 4) hx hb hts hinX0 hown hK hP 0 rfl rfl 2 (by decide) hf16 (fun _ h9 => h9) rfl dX0_append_73 ?_
  refine lv_iload hx hb dX0_append_76 (lv_at hl 0 rfl) ?_
  refine lv_iconst (v := nI 1) hx hb dX0_append_78 (by decide) ?_
  refine lv_iadd hx hb dX0_append_79 ?_
  refine lv_is (nI_add _ _) ?_
  refine lv_iload hx hb dX0_append_80 (lv_at hl 11 rfl) ?_
  refine ix_iast hx hb hK hP hD hS 3 1 rfl rfl (show (n * 8) + 1 < 5120 by omega) (by decide) dX0_append_82 (fun H locs hP hD hS => ?_)
  replace hP : va_P (dC, dI) vwCl [(x, .inr (0, [.ref g, .ref t, .ref f, .int (nI n)])), (g, .inl (cJ, 4, .inr (.inl G))), (t, .inl (cJ, 2560, .inr (.inl T))), (f, .inl (cI, 5120, .inl (upd (upd F ((n * 8) + 0) ((ga_cup F n (ga_last G T F st n)) + (nI 1))) ((n * 8) + 1) cl)))] H := hP
  replace hD : va_D A [(x, .inr (0, [.ref g, .ref t, .ref f, .int (nI n)])), (g, .inl (cJ, 4, .inr (.inl G))), (t, .inl (cJ, 2560, .inr (.inl T))), (f, .inl (cI, 5120, .inl (upd (upd F ((n * 8) + 0) ((ga_cup F n (ga_last G T F st n)) + (nI 1))) ((n * 8) + 1) cl)))] := hD
  refine lv_aload_n hx hb dX0_append_83 rfl (lv_at hl 7 rfl) ?_
  refine va_get (D := (dC, dI)) (ci := 0) (v := .ref f) (C := RX0) (T := TX0) (N := 4) hx hb hts hinX0 hown hK hP 0 rfl rfl 2 (by decide) hf16 (fun _ h9 => h9) rfl dX0_append_84 ?_
  refine lv_iload hx hb dX0_append_87 (lv_at hl 0 rfl) ?_
  refine lv_iconst (v := nI 2) hx hb dX0_append_89 (by decide) ?_
  refine lv_iadd hx hb dX0_append_90 ?_
  refine lv_is (nI_add _ _) ?_
  refine lv_iload hx hb dX0_append_91 (lv_at hl 1 rfl) ?_
  refine ix_iast hx hb hK hP hD hS 3 1 rfl rfl (show (n * 8) + 2 < 5120 by omega) (by decide) dX0_append_93 (fun H locs hP hD hS => ?_)
  replace hP : va_P (dC, dI) vwCl [(x, .inr (0, [.ref g, .ref t, .ref f, .int (nI n)])), (g, .inl (cJ, 4, .inr (.inl G))), (t, .inl (cJ, 2560, .inr (.inl T))), (f, .inl (cI, 5120, .inl (upd (upd (upd F ((n * 8) + 0) ((ga_cup F n (ga_last G T F st n)) + (nI 1))) ((n * 8) + 1) cl) ((n * 8) + 2) (ga_judge mv ck (ga_dead G (nI (64 - (ga_cnt G (nI 0) 64)))) ((ga_cup F n (ga_last G T F st n)) + (nI 1)) cl))))] H := hP
  replace hD : va_D A [(x, .inr (0, [.ref g, .ref t, .ref f, .int (nI n)])), (g, .inl (cJ, 4, .inr (.inl G))), (t, .inl (cJ, 2560, .inr (.inl T))), (f, .inl (cI, 5120, .inl (upd (upd (upd F ((n * 8) + 0) ((ga_cup F n (ga_last G T F st n)) + (nI 1))) ((n * 8) + 1) cl) ((n * 8) + 2) (ga_judge mv ck (ga_dead G (nI (64 - (ga_cnt G (nI 0) 64)))) ((ga_cup F n (ga_last G T F st n)) + (nI 1)) cl))))] := hD
  refine lv_aload_n hx hb dX0_append_94 rfl (lv_at hl 7 rfl) ?_
  refine va_get (D := (dC, dI)) (ci := 0) (v := .ref f) (C := RX0) (T := TX0) (N := 4) hx hb hts hinX0 hown hK hP 0 rfl rfl 2 (by decide) hf16 (fun _ h9 => h9) rfl dX0_append_95 ?_
  refine lv_iload hx hb dX0_append_98 (lv_at hl 0 rfl) ?_
  refine lv_iconst (v := nI 3) hx hb dX0_append_100 (by decide) ?_
  refine lv_iadd hx hb dX0_append_101 ?_
  refine lv_is (nI_add _ _) ?_
  have J120 : ∀ v3 : Int32, v3 = ap_fi G T F n st mv ck cl → W p l e (headSpec wsX0_append ({ frames := 4, cells := 0, slots := 0, locals := 90 } : Room)).room s m ([.ref x, .int st, .int mv, .int ck, .int cl] : List Value).toArray below meth c H locs 0 0 (MQ below (wrQ (dC, dI) (wX cI cJ x g t f G (ap_T G T n) (ap_F G T F n st mv ck cl) (n + 1)) (tK cI cJ) A (fun r => r = ap_vd G T F n st mv ck cl)) ([.ref x, .int st, .int mv, .int ck, .int cl] : List Value).toArray s 0 0 A) (F0 m 120 ls [.int v3, .int (nI ((n * 8) + 3)), .ref f]) := by
    intro v3 ev3
    refine ix_iast hx hb hK hP hD hS 3 1 rfl rfl (show (n * 8) + 3 < 5120 by omega) (by decide) dX0_append_120 (fun H locs hP hD hS => ?_)
    replace hP : va_P (dC, dI) vwCl [(x, .inr (0, [.ref g, .ref t, .ref f, .int (nI n)])), (g, .inl (cJ, 4, .inr (.inl G))), (t, .inl (cJ, 2560, .inr (.inl T))), (f, .inl (cI, 5120, .inl (upd (upd (upd (upd F ((n * 8) + 0) ((ga_cup F n (ga_last G T F st n)) + (nI 1))) ((n * 8) + 1) cl) ((n * 8) + 2) (ga_judge mv ck (ga_dead G (nI (64 - (ga_cnt G (nI 0) 64)))) ((ga_cup F n (ga_last G T F st n)) + (nI 1)) cl)) ((n * 8) + 3) v3)))] H := hP
    replace hD : va_D A [(x, .inr (0, [.ref g, .ref t, .ref f, .int (nI n)])), (g, .inl (cJ, 4, .inr (.inl G))), (t, .inl (cJ, 2560, .inr (.inl T))), (f, .inl (cI, 5120, .inl (upd (upd (upd (upd F ((n * 8) + 0) ((ga_cup F n (ga_last G T F st n)) + (nI 1))) ((n * 8) + 1) cl) ((n * 8) + 2) (ga_judge mv ck (ga_dead G (nI (64 - (ga_cnt G (nI 0) 64)))) ((ga_cup F n (ga_last G T F st n)) + (nI 1)) cl)) ((n * 8) + 3) v3)))] := hD
    refine lv_aload_n hx hb dX0_append_121 rfl (lv_at hl 7 rfl) ?_
    refine va_get (D := (dC, dI)) (ci := 0) (v := .ref f) (C := RX0) (T := TX0) (N := 4) hx hb hts hinX0 hown hK hP 0 rfl rfl 2 (by decide) hf16 (fun _ h9 => h9) rfl dX0_append_122 ?_
    refine lv_iload hx hb dX0_append_125 (lv_at hl 0 rfl) ?_
    refine lv_iconst (v := nI 4) hx hb dX0_append_127 (by decide) ?_
    refine lv_iadd hx hb dX0_append_128 ?_
    refine lv_is (nI_add _ _) ?_
    refine lv_iload hx hb dX0_append_129 (lv_at hl 5 rfl) ?_
    refine ix_iast hx hb hK hP hD hS 3 1 rfl rfl (show (n * 8) + 4 < 5120 by omega) (by decide) dX0_append_131 (fun H locs hP hD hS => ?_)
    replace hP : va_P (dC, dI) vwCl [(x, .inr (0, [.ref g, .ref t, .ref f, .int (nI n)])), (g, .inl (cJ, 4, .inr (.inl G))), (t, .inl (cJ, 2560, .inr (.inl T))), (f, .inl (cI, 5120, .inl (upd (upd (upd (upd (upd F ((n * 8) + 0) ((ga_cup F n (ga_last G T F st n)) + (nI 1))) ((n * 8) + 1) cl) ((n * 8) + 2) (ga_judge mv ck (ga_dead G (nI (64 - (ga_cnt G (nI 0) 64)))) ((ga_cup F n (ga_last G T F st n)) + (nI 1)) cl)) ((n * 8) + 3) v3) ((n * 8) + 4) (ga_last G T F st n))))] H := hP
    replace hD : va_D A [(x, .inr (0, [.ref g, .ref t, .ref f, .int (nI n)])), (g, .inl (cJ, 4, .inr (.inl G))), (t, .inl (cJ, 2560, .inr (.inl T))), (f, .inl (cI, 5120, .inl (upd (upd (upd (upd (upd F ((n * 8) + 0) ((ga_cup F n (ga_last G T F st n)) + (nI 1))) ((n * 8) + 1) cl) ((n * 8) + 2) (ga_judge mv ck (ga_dead G (nI (64 - (ga_cnt G (nI 0) 64)))) ((ga_cup F n (ga_last G T F st n)) + (nI 1)) cl)) ((n * 8) + 3) v3) ((n * 8) + 4) (ga_last G T F st n))))] := hD
    refine lv_aload_n hx hb dX0_append_132 rfl (lv_at hl 7 rfl) ?_
    refine va_get (D := (dC, dI)) (ci := 0) (v := .ref f) (C := RX0) (T := TX0) (N := 4) hx hb hts hinX0 hown hK hP 0 rfl rfl 2 (by decide) hf16 (fun _ h9 => h9) rfl dX0_append_133 ?_
    refine lv_iload hx hb dX0_append_136 (lv_at hl 0 rfl) ?_
    refine lv_iconst (v := nI 5) hx hb dX0_append_138 (by decide) ?_
    refine lv_iadd hx hb dX0_append_139 ?_
    refine lv_is (nI_add _ _) ?_
    refine lv_iload_n hx hb dX0_append_140 rfl (lv_at hl 8 rfl) ?_
    refine ix_iast hx hb hK hP hD hS 3 1 rfl rfl (show (n * 8) + 5 < 5120 by omega) (by decide) dX0_append_141 (fun H locs hP hD hS => ?_)
    replace hP : va_P (dC, dI) vwCl [(x, .inr (0, [.ref g, .ref t, .ref f, .int (nI n)])), (g, .inl (cJ, 4, .inr (.inl G))), (t, .inl (cJ, 2560, .inr (.inl T))), (f, .inl (cI, 5120, .inl (upd (upd (upd (upd (upd (upd F ((n * 8) + 0) ((ga_cup F n (ga_last G T F st n)) + (nI 1))) ((n * 8) + 1) cl) ((n * 8) + 2) (ga_judge mv ck (ga_dead G (nI (64 - (ga_cnt G (nI 0) 64)))) ((ga_cup F n (ga_last G T F st n)) + (nI 1)) cl)) ((n * 8) + 3) v3) ((n * 8) + 4) (ga_last G T F st n)) ((n * 8) + 5) st)))] H := hP
    replace hD : va_D A [(x, .inr (0, [.ref g, .ref t, .ref f, .int (nI n)])), (g, .inl (cJ, 4, .inr (.inl G))), (t, .inl (cJ, 2560, .inr (.inl T))), (f, .inl (cI, 5120, .inl (upd (upd (upd (upd (upd (upd F ((n * 8) + 0) ((ga_cup F n (ga_last G T F st n)) + (nI 1))) ((n * 8) + 1) cl) ((n * 8) + 2) (ga_judge mv ck (ga_dead G (nI (64 - (ga_cnt G (nI 0) 64)))) ((ga_cup F n (ga_last G T F st n)) + (nI 1)) cl)) ((n * 8) + 3) v3) ((n * 8) + 4) (ga_last G T F st n)) ((n * 8) + 5) st)))] := hD
    refine lv_aload_n hx hb dX0_append_142 rfl (lv_at hl 7 rfl) ?_
    refine va_get (D := (dC, dI)) (ci := 0) (v := .ref f) (C := RX0) (T := TX0) (N := 4) hx hb hts hinX0 hown hK hP 0 rfl rfl 2 (by decide) hf16 (fun _ h9 => h9) rfl dX0_append_143 ?_
    refine lv_iload hx hb dX0_append_146 (lv_at hl 0 rfl) ?_
    refine lv_bipush (v := nI 6) hx hb dX0_append_148 (by decide) ?_
    refine lv_iadd hx hb dX0_append_150 ?_
    refine lv_is (nI_add _ _) ?_
    have J161 : ∀ v6 : Int32, v6 = (if ga_dead G (nI (ap_mn G)) = 0 then nI 0 else nI 1) → W p l e (headSpec wsX0_append ({ frames := 4, cells := 0, slots := 0, locals := 90 } : Room)).room s m ([.ref x, .int st, .int mv, .int ck, .int cl] : List Value).toArray below meth c H locs 0 0 (MQ below (wrQ (dC, dI) (wX cI cJ x g t f G (ap_T G T n) (ap_F G T F n st mv ck cl) (n + 1)) (tK cI cJ) A (fun r => r = ap_vd G T F n st mv ck cl)) ([.ref x, .int st, .int mv, .int ck, .int cl] : List Value).toArray s 0 0 A) (F0 m 161 ls [.int v6, .int (nI ((n * 8) + 6)), .ref f]) := by
      intro v6 ev6
      refine ix_iast hx hb hK hP hD hS 3 1 rfl rfl (show (n * 8) + 6 < 5120 by omega) (by decide) dX0_append_161 (fun H locs hP hD hS => ?_)
      replace hP : va_P (dC, dI) vwCl [(x, .inr (0, [.ref g, .ref t, .ref f, .int (nI n)])), (g, .inl (cJ, 4, .inr (.inl G))), (t, .inl (cJ, 2560, .inr (.inl T))), (f, .inl (cI, 5120, .inl (upd (upd (upd (upd (upd (upd (upd F ((n * 8) + 0) ((ga_cup F n (ga_last G T F st n)) + (nI 1))) ((n * 8) + 1) cl) ((n * 8) + 2) (ga_judge mv ck (ga_dead G (nI (64 - (ga_cnt G (nI 0) 64)))) ((ga_cup F n (ga_last G T F st n)) + (nI 1)) cl)) ((n * 8) + 3) v3) ((n * 8) + 4) (ga_last G T F st n)) ((n * 8) + 5) st) ((n * 8) + 6) v6)))] H := hP
      replace hD : va_D A [(x, .inr (0, [.ref g, .ref t, .ref f, .int (nI n)])), (g, .inl (cJ, 4, .inr (.inl G))), (t, .inl (cJ, 2560, .inr (.inl T))), (f, .inl (cI, 5120, .inl (upd (upd (upd (upd (upd (upd (upd F ((n * 8) + 0) ((ga_cup F n (ga_last G T F st n)) + (nI 1))) ((n * 8) + 1) cl) ((n * 8) + 2) (ga_judge mv ck (ga_dead G (nI (64 - (ga_cnt G (nI 0) 64)))) ((ga_cup F n (ga_last G T F st n)) + (nI 1)) cl)) ((n * 8) + 3) v3) ((n * 8) + 4) (ga_last G T F st n)) ((n * 8) + 5) st) ((n * 8) + 6) v6)))] := hD
      refine lv_aload_n hx hb dX0_append_162 rfl (lv_at hl 7 rfl) ?_
      refine va_get (D := (dC, dI)) (ci := 0) (v := .ref f) (C := RX0) (T := TX0) (N := 4) hx hb hts hinX0 hown hK hP 0 rfl rfl 2 (by decide) hf16 (fun _ h9 => h9) rfl dX0_append_163 ?_
      refine lv_iload hx hb dX0_append_166 (lv_at hl 0 rfl) ?_
      refine lv_bipush (v := nI 7) hx hb dX0_append_168 (by decide) ?_
      refine lv_iadd hx hb dX0_append_170 ?_
      refine lv_is (nI_add _ _) ?_
      refine lv_iload hx hb dX0_append_171 (lv_at hl 3 rfl) ?_
      refine ix_iast hx hb hK hP hD hS 3 1 rfl rfl (show (n * 8) + 7 < 5120 by omega) (by decide) dX0_append_173 (fun H locs hP hD hS => ?_)
      replace hP : va_P (dC, dI) vwCl [(x, .inr (0, [.ref g, .ref t, .ref f, .int (nI n)])), (g, .inl (cJ, 4, .inr (.inl G))), (t, .inl (cJ, 2560, .inr (.inl T))), (f, .inl (cI, 5120, .inl (upd (upd (upd (upd (upd (upd (upd (upd F ((n * 8) + 0) ((ga_cup F n (ga_last G T F st n)) + (nI 1))) ((n * 8) + 1) cl) ((n * 8) + 2) (ga_judge mv ck (ga_dead G (nI (64 - (ga_cnt G (nI 0) 64)))) ((ga_cup F n (ga_last G T F st n)) + (nI 1)) cl)) ((n * 8) + 3) v3) ((n * 8) + 4) (ga_last G T F st n)) ((n * 8) + 5) st) ((n * 8) + 6) v6) ((n * 8) + 7) (nI (64 - (ga_cnt G (nI 0) 64))))))] H := hP
      replace hD : va_D A [(x, .inr (0, [.ref g, .ref t, .ref f, .int (nI n)])), (g, .inl (cJ, 4, .inr (.inl G))), (t, .inl (cJ, 2560, .inr (.inl T))), (f, .inl (cI, 5120, .inl (upd (upd (upd (upd (upd (upd (upd (upd F ((n * 8) + 0) ((ga_cup F n (ga_last G T F st n)) + (nI 1))) ((n * 8) + 1) cl) ((n * 8) + 2) (ga_judge mv ck (ga_dead G (nI (64 - (ga_cnt G (nI 0) 64)))) ((ga_cup F n (ga_last G T F st n)) + (nI 1)) cl)) ((n * 8) + 3) v3) ((n * 8) + 4) (ga_last G T F st n)) ((n * 8) + 5) st) ((n * 8) + 6) v6) ((n * 8) + 7) (nI (64 - (ga_cnt G (nI 0) 64))))))] := hD
      refine lv_aload_n hx hb dX0_append_174 rfl (lv_at hl 7 rfl) ?_
      refine va_get (D := (dC, dI)) (ci := 0) (v := .ref g) (C := RX0) (T := TX0) (N := 4) hx hb hts hinX0 hown hK hP 0 rfl rfl 0 (by decide) hf9 (fun _ h9 => h9) rfl dX0_append_175 ?_
      refine lv_iconst (v := nI 0) hx hb dX0_append_178 (by decide) ?_
      refine lv_aload_n hx hb dX0_append_179 rfl (lv_at hl 7 rfl) ?_
      refine va_get (D := (dC, dI)) (ci := 0) (v := .ref t) (C := RX0) (T := TX0) (N := 4) hx hb hts hinX0 hown hK hP 0 rfl rfl 1 (by decide) hf13 (fun _ h9 => h9) rfl dX0_append_180 ?_
      refine lv_iload hx hb dX0_append_183 (lv_at hl 6 rfl) ?_
      refine lv_iconst (v := nI 4) hx hb dX0_append_185 (by decide) ?_
      refine lv_imul hx hb dX0_append_186 ?_
      refine lv_is (pk_mul _ _) ?_
      refine lv_iconst (v := nI 4) hx hb dX0_append_187 (by decide) ?_
      refine ix_copyl hx hb (hml.trans hl.1.symm) hown (hts (.methodLink RX0 107 arraycopyName) (by decide +kernel)) (hts (.native arraycopyName) (by decide +kernel)) (hts (.static arraycopyName) (by decide +kernel)) (hts (.initialized "java/lang/System") (by decide +kernel)) hK hP hD hS 1 2 0 rfl rfl rfl (show 0 + 4 ≤ 4 by omega) (show n * 4 + 4 ≤ 2560 by omega) (by decide) (by decide) (Nat.le_of_ble_eq_true rfl) (by decide) dX0_append_188 (fun H locs hP hD hS => ?_)
      have hP : va_P (dC, dI) vwCl [(x, .inr (0, [.ref g, .ref t, .ref f, .int (nI n)])), (g, .inl (cJ, 4, .inr (.inl G))), (t, .inl (cJ, 2560, .inr (.inl (va_cpy G T 0 (n * 4) 4)))), (f, .inl (cI, 5120, .inl (upd (upd (upd (upd (upd (upd (upd (upd F ((n * 8) + 0) ((ga_cup F n (ga_last G T F st n)) + (nI 1))) ((n * 8) + 1) cl) ((n * 8) + 2) (ga_judge mv ck (ga_dead G (nI (64 - (ga_cnt G (nI 0) 64)))) ((ga_cup F n (ga_last G T F st n)) + (nI 1)) cl)) ((n * 8) + 3) v3) ((n * 8) + 4) (ga_last G T F st n)) ((n * 8) + 5) st) ((n * 8) + 6) v6) ((n * 8) + 7) (nI (64 - (ga_cnt G (nI 0) 64))))))] H := hP
      have hD : va_D A [(x, .inr (0, [.ref g, .ref t, .ref f, .int (nI n)])), (g, .inl (cJ, 4, .inr (.inl G))), (t, .inl (cJ, 2560, .inr (.inl (va_cpy G T 0 (n * 4) 4)))), (f, .inl (cI, 5120, .inl (upd (upd (upd (upd (upd (upd (upd (upd F ((n * 8) + 0) ((ga_cup F n (ga_last G T F st n)) + (nI 1))) ((n * 8) + 1) cl) ((n * 8) + 2) (ga_judge mv ck (ga_dead G (nI (64 - (ga_cnt G (nI 0) 64)))) ((ga_cup F n (ga_last G T F st n)) + (nI 1)) cl)) ((n * 8) + 3) v3) ((n * 8) + 4) (ga_last G T F st n)) ((n * 8) + 5) st) ((n * 8) + 6) v6) ((n * 8) + 7) (nI (64 - (ga_cnt G (nI 0) 64))))))] := hD
      refine lv_aload_n hx hb dX0_append_191 rfl (lv_at hl 7 rfl) ?_
      refine lv_iload hx hb dX0_append_192 (lv_at hl 6 rfl) ?_
      refine lv_iconst (v := nI 1) hx hb dX0_append_194 (by decide) ?_
      refine lv_iadd hx hb dX0_append_195 ?_
      refine lv_is (nI_add _ _) ?_
      refine va_put (D := (dC, dI)) (ci := 0) (v := .int (nI (n + 1))) (ty := .int) (C := RX0) (T := TX0) (N := 4) hx hb hts hinX0 tyX0 tyX0_ok nmX0 hown hK hP hD hS 0 rfl rfl 3 (by decide) hf20 (fun _ h9 => h9) rfl (by decide +kernel) rfl rfl (Nat.le_of_ble_eq_true rfl) dX0_append_196 (fun H locs hP hD hS => ?_)
      replace hP : va_P (dC, dI) vwCl [(x, .inr (0, [.ref g, .ref t, .ref f, .int (nI (n + 1))])), (g, .inl (cJ, 4, .inr (.inl G))), (t, .inl (cJ, 2560, .inr (.inl (va_cpy G T 0 (n * 4) 4)))), (f, .inl (cI, 5120, .inl (upd (upd (upd (upd (upd (upd (upd (upd F ((n * 8) + 0) ((ga_cup F n (ga_last G T F st n)) + (nI 1))) ((n * 8) + 1) cl) ((n * 8) + 2) (ga_judge mv ck (ga_dead G (nI (64 - (ga_cnt G (nI 0) 64)))) ((ga_cup F n (ga_last G T F st n)) + (nI 1)) cl)) ((n * 8) + 3) v3) ((n * 8) + 4) (ga_last G T F st n)) ((n * 8) + 5) st) ((n * 8) + 6) v6) ((n * 8) + 7) (nI (64 - (ga_cnt G (nI 0) 64))))))] H := hP
      replace hD : va_D A [(x, .inr (0, [.ref g, .ref t, .ref f, .int (nI (n + 1))])), (g, .inl (cJ, 4, .inr (.inl G))), (t, .inl (cJ, 2560, .inr (.inl (va_cpy G T 0 (n * 4) 4)))), (f, .inl (cI, 5120, .inl (upd (upd (upd (upd (upd (upd (upd (upd F ((n * 8) + 0) ((ga_cup F n (ga_last G T F st n)) + (nI 1))) ((n * 8) + 1) cl) ((n * 8) + 2) (ga_judge mv ck (ga_dead G (nI (64 - (ga_cnt G (nI 0) 64)))) ((ga_cup F n (ga_last G T F st n)) + (nI 1)) cl)) ((n * 8) + 3) v3) ((n * 8) + 4) (ga_last G T F st n)) ((n * 8) + 5) st) ((n * 8) + 6) v6) ((n * 8) + 7) (nI (64 - (ga_cnt G (nI 0) 64))))))] := hD
      refine lv_iload hx hb dX0_append_199 (lv_at hl 1 rfl) ?_
      exact wr_ret hx hb hr hlocks (rfl) (by subst ev3; subst ev6; rfl) hP hK hD hS dX0_append_201
    refine lv_iload hx hb dX0_append_151 (lv_at hl 2 rfl) ?_
    refine lv_if_eq (tgt := 160) hx hb dX0_append_153 (by decide) (fun c_1 => ?_) (fun c_1 => ?_)
    · refine lv_iconst (v := nI 0) hx hb dX0_append_160 (by decide) ?_
      exact J161 _ (by rw [if_pos (show ga_dead G (nI (ap_mn G)) = 0 from c_1)])
    · refine lv_iconst (v := nI 1) hx hb dX0_append_156 (by decide) ?_
      refine lv_goto (tgt := 161) hx hb dX0_append_157 (by decide) ?_
      exact J161 _ (by rw [if_neg (show ¬ ga_dead G (nI (ap_mn G)) = 0 from c_1)])
  refine lv_iload hx hb dX0_append_102 (lv_at hl 5 rfl) ?_
  refine lv_iconst (v := (-1)) hx hb dX0_append_104 (by decide) ?_
  refine lv_icmp_ne (tgt := 113) hx hb dX0_append_105 (by decide) (fun c_2 => ?_) (fun c_2 => ?_)
  · obtain ⟨a, ha, ha2⟩ : ∃ a : Nat, a < n ∧ ga_last G T F st n = nI a := (ga_last_nat G T F st n).resolve_left c_2
    rw [ha2] at hl
    refine lv_aload_n hx hb dX0_append_113 rfl (lv_at hl 7 rfl) ?_
    refine lv_iload hx hb dX0_append_114 (lv_at hl 5 rfl) ?_
    refine lv_iconst (v := nI 3) hx hb dX0_append_116 (by decide) ?_
    refine rd_callV (rest := [.int (nI ((n * 8) + 3)), .ref f]) ⟨hx, hb, hml, hown, hts⟩ (k_X0_factOf l dC dI cI cJ x g t f G T (upd (upd (upd F ((n * 8) + 0) ((ga_cup F n (ga_last G T F st n)) + (nI 1))) ((n * 8) + 1) cl) ((n * 8) + 2) (ga_judge mv ck (ga_dead G (nI (64 - (ga_cnt G (nI 0) 64)))) ((ga_cup F n (ga_last G T F st n)) + (nI 1)) cl)) n a 3 (by omega)) (cwV 2 hts gX0_append_X0_factOf rfl rfl rfl (by decide +kernel) ⟨Nat.le_of_ble_eq_true rfl, Nat.le_of_ble_eq_true rfl⟩) hK hP rfl (q0 := 0) rfl rfl hl.1 rfl (Nat.le_of_ble_eq_true rfl) dX0_append_117 ⟨Nat.zero_le _, Nat.zero_le _⟩ ?_
    exact J120 _ (by rw [ap_fi, if_neg (show ¬ ap_be G T F n st = -1 from c_2)]; rw [show ap_be G T F n st = nI a from ha2, nI_clamp (by omega)]; rfl)
  · refine lv_iload hx hb dX0_append_108 (lv_at hl 6 rfl) ?_
    refine lv_goto (tgt := 120) hx hb dX0_append_110 (by decide) ?_
    exact J120 _ (by rw [ap_fi, if_pos (show ap_be G T F n st = -1 from c_2)])
set_option maxHeartbeats 4000000 in
set_option maxRecDepth 100000 in
theorem k_X0_verdict (l : Launch) (dC : Nat → ClassId) (dI : Nat → Nat → Nat) (cI cJ : ClassId) (x g t f : Nat) (G T : Nat → Int64) (F : Nat → Int32) (n : Nat) (hn : n ≤ 640) : Met l yX0_verdict wsX0_verdict ({ frames := 1, cells := 0, slots := 0, locals := 22 } : Room) (rd (dC, dI) (wX cI cJ x g t f G T F n) (tK cI cJ) [.ref x]) (QcRead (if n = 0 then -1 else F ((n - 1) * 8 + 2))) 0 0 nofree := by
  refine Met.ofW (cc := cX0_verdict) (maxL := 1) (ret := (some .int)) (by decide) rfl ?_
  intro p e s m args below meth c s₁ B hml hv
  obtain ⟨rfl, hP, hK⟩ := hv
  have hx := B.exec
  have hb := B.bytes
  have hr := B.returns
  have hts := atoms_spec (ws := wsX0_verdict) B.pre
  have hown : s.vm.findClass RX0 = some m.cls := findClass_of_methodNamed B.named
  have hlocks := B.notSynchronized
  have hinX0 : ∀ w ∈ u_ws RX0 TX0 4, w ∈ wsX0_verdict := by decide +kernel
  have hf20 := hts (.fieldLink RX0 20 "GameArbiter" "positions" "I") (by decide +kernel)
  have hl := lv_entry ([.ref x]) (n := 1) (Nat.le_of_ble_eq_true rfl)
  rw [lg_entry_eq]
  generalize (lg_sl ([.ref x]) ++ List.replicate (1 - (lg_sl ([.ref x])).length) Slot.unset).toArray = ls at hl ⊢
  replace hl : lv_has ls 1 [(0, .ref x)] := hl
  refine lv_aload_n hx hb dX0_verdict_0 rfl (lv_at hl 0 rfl) ?_
  refine va_get (D := (dC, dI)) (ci := 0) (v := .int (nI n)) (C := RX0) (T := TX0) (N := 4) hx hb hts hinX0 hown hK hP 0 rfl rfl 3 (by decide) hf20 (fun _ h9 => h9) rfl dX0_verdict_1 ?_
  refine lv_if_ne (tgt := 11) hx hb dX0_verdict_4 (by decide) (fun c_1 => ?_) (fun c_1 => ?_)
  · have c_1 : ¬ (n = 0) := fun h => c_1 ((nz_eq (show n < 2 ^ 31 by omega)).mpr h)
    refine lv_aload_n hx hb dX0_verdict_11 rfl (lv_at hl 0 rfl) ?_
    refine lv_aload_n hx hb dX0_verdict_12 rfl (lv_at hl 0 rfl) ?_
    refine va_get (D := (dC, dI)) (ci := 0) (v := .int (nI n)) (C := RX0) (T := TX0) (N := 4) hx hb hts hinX0 hown hK hP 0 rfl rfl 3 (by decide) hf20 (fun _ h9 => h9) rfl dX0_verdict_13 ?_
    refine lv_iconst (v := nI 1) hx hb dX0_verdict_16 (by decide) ?_
    refine lv_isub hx hb dX0_verdict_17 ?_
    refine lv_is (pk_sub (by omega)) ?_
    refine lv_iconst (v := nI 2) hx hb dX0_verdict_18 (by decide) ?_
    refine rd_callV (rest := []) ⟨hx, hb, hml, hown, hts⟩ (k_X0_factOf l dC dI cI cJ x g t f G T F n (n - 1) 2 (by omega)) (cwV 2 hts gX0_verdict_X0_factOf rfl rfl rfl (by decide +kernel) ⟨Nat.le_of_ble_eq_true rfl, Nat.le_of_ble_eq_true rfl⟩) hK hP rfl (q0 := 0) rfl rfl hl.1 rfl (Nat.le_of_ble_eq_true rfl) dX0_verdict_19 ⟨Nat.zero_le _, Nat.zero_le _⟩ ?_
    exact rd_ret hx hb hr hlocks (by rw [if_neg c_1]) dX0_verdict_22
  · have c_1 : n = 0 := (nz_eq (show n < 2 ^ 31 by omega)).mp c_1
    refine lv_iconst (v := (-1)) hx hb dX0_verdict_7 (by decide) ?_
    refine lv_goto (tgt := 22) hx hb dX0_verdict_8 (by decide) ?_
    exact rd_ret hx hb hr hlocks (by rw [if_pos c_1]) dX0_verdict_22
set_option maxHeartbeats 4000000 in
set_option maxRecDepth 100000 in
theorem k_X0_look (l : Launch) (dC : Nat → ClassId) (dI : Nat → Nat → Nat) (cI cJ : ClassId) (x g t f : Nat) (G T : Nat → Int64) (F : Nat → Int32) (n : Nat) (q : Int32) (hn : n ≤ 640) : Met l yX0_look wsX0_look ({ frames := 2, cells := 0, slots := 0, locals := 53 } : Room) (rd (dC, dI) (wX cI cJ x g t f G T F n) (tK cI cJ) [.ref x, .int q]) (QcRead (ga_look F n q)) 0 0 nofree := by
  refine Met.ofW (cc := cX0_look) (maxL := 2) (ret := (some .int)) (by decide) rfl ?_
  intro p e s m args below meth c s₁ B hml hv
  obtain ⟨rfl, hP, hK⟩ := hv
  have hx := B.exec
  have hb := B.bytes
  have hr := B.returns
  have hts := atoms_spec (ws := wsX0_look) B.pre
  have hown : s.vm.findClass RX0 = some m.cls := findClass_of_methodNamed B.named
  have hlocks := B.notSynchronized
  have hinX0 : ∀ w ∈ u_ws RX0 TX0 4, w ∈ wsX0_look := by decide +kernel
  have hf20 := hts (.fieldLink RX0 20 "GameArbiter" "positions" "I") (by decide +kernel)
  have hl := lv_entry ([.ref x, .int q]) (n := 2) (Nat.le_of_ble_eq_true rfl)
  rw [lg_entry_eq]
  generalize (lg_sl ([.ref x, .int q]) ++ List.replicate (2 - (lg_sl ([.ref x, .int q])).length) Slot.unset).toArray = ls at hl ⊢
  replace hl : lv_has ls 2 [(0, .ref x), (1, .int q)] := hl
  refine lv_iload_n hx hb dX0_look_0 rfl (lv_at hl 1 rfl) ?_
  by_cases w_0 : q = nI 0
  · refine lv_is w_0 ?_
    refine lv_tableIn (off := 31) (tgt := 32) hx hb dX0_look_1 (by decide) (by decide) rfl (by decide) ?_
    refine lv_aload_n hx hb dX0_look_32 rfl (lv_at hl 0 rfl) ?_
    refine va_get (D := (dC, dI)) (ci := 0) (v := .int (nI n)) (C := RX0) (T := TX0) (N := 4) hx hb hts hinX0 hown hK hP 0 rfl rfl 3 (by decide) hf20 (fun _ h9 => h9) rfl dX0_look_33 ?_
    exact rd_ret hx hb hr hlocks (by rw [ga_look, if_pos w_0]) dX0_look_36
  by_cases w_1 : q = nI 1
  · refine lv_is w_1 ?_
    refine lv_tableIn (off := 36) (tgt := 37) hx hb dX0_look_1 (by decide) (by decide) rfl (by decide) ?_
    refine lv_aload_n hx hb dX0_look_37 rfl (lv_at hl 0 rfl) ?_
    refine rd_callV (rest := []) ⟨hx, hb, hml, hown, hts⟩ (k_X0_differentPositions l dC dI cI cJ x g t f G T F n (by omega)) (cwV 0 hts gX0_look_X0_differentPositions rfl rfl rfl (by decide +kernel) ⟨Nat.le_of_ble_eq_true rfl, Nat.le_of_ble_eq_true rfl⟩) hK hP rfl (q0 := 0) rfl rfl hl.1 rfl (Nat.le_of_ble_eq_true rfl) dX0_look_38 ⟨Nat.zero_le _, Nat.zero_le _⟩ ?_
    exact rd_ret hx hb hr hlocks (by rw [ga_look, if_neg w_0, if_pos w_1]) dX0_look_41
  by_cases w_2 : q = nI 2
  · refine lv_is w_2 ?_
    refine lv_tableIn (off := 41) (tgt := 42) hx hb dX0_look_1 (by decide) (by decide) rfl (by decide) ?_
    refine lv_aload_n hx hb dX0_look_42 rfl (lv_at hl 0 rfl) ?_
    refine lv_iconst (v := nI 0) hx hb dX0_look_43 (by decide) ?_
    refine rd_callV (rest := []) ⟨hx, hb, hml, hown, hts⟩ (k_X0_greatest l dC dI cI cJ x g t f G T F n 0 (by omega) (by omega)) (cwV 1 hts gX0_look_X0_greatest rfl rfl rfl (by decide +kernel) ⟨Nat.le_of_ble_eq_true rfl, Nat.le_of_ble_eq_true rfl⟩) hK hP rfl (q0 := 0) rfl rfl hl.1 rfl (Nat.le_of_ble_eq_true rfl) dX0_look_44 ⟨Nat.zero_le _, Nat.zero_le _⟩ ?_
    exact rd_ret hx hb hr hlocks (by rw [ga_look, if_neg w_0, if_neg w_1, if_pos w_2]) dX0_look_47
  by_cases w_3 : q = nI 3
  · refine lv_is w_3 ?_
    refine lv_tableIn (off := 47) (tgt := 48) hx hb dX0_look_1 (by decide) (by decide) rfl (by decide) ?_
    refine lv_aload_n hx hb dX0_look_48 rfl (lv_at hl 0 rfl) ?_
    refine lv_iconst (v := nI 1) hx hb dX0_look_49 (by decide) ?_
    refine rd_callV (rest := []) ⟨hx, hb, hml, hown, hts⟩ (k_X0_greatest l dC dI cI cJ x g t f G T F n 1 (by omega) (by omega)) (cwV 1 hts gX0_look_X0_greatest rfl rfl rfl (by decide +kernel) ⟨Nat.le_of_ble_eq_true rfl, Nat.le_of_ble_eq_true rfl⟩) hK hP rfl (q0 := 0) rfl rfl hl.1 rfl (Nat.le_of_ble_eq_true rfl) dX0_look_50 ⟨Nat.zero_le _, Nat.zero_le _⟩ ?_
    exact rd_ret hx hb hr hlocks (by rw [ga_look, if_neg w_0, if_neg w_1, if_neg w_2, if_pos w_3]) dX0_look_53
  have hOut : q.toInt < 0 ∨ 3 < q.toInt := by
    have q0 := lv_neT w_0 (show (nI 0).toInt = 0 from rfl)
    have q1 := lv_neT w_1 (show (nI 1).toInt = 1 from rfl)
    have q2 := lv_neT w_2 (show (nI 2).toInt = 2 from rfl)
    have q3 := lv_neT w_3 (show (nI 3).toInt = 3 from rfl)
    omega
  refine lv_tableOut (tgt := 54) hx hb dX0_look_1 hOut (by decide) ?_
  refine lv_iconst (v := (-1)) hx hb dX0_look_54 (by decide) ?_
  exact rd_ret hx hb hr hlocks (by rw [ga_look, if_neg w_0, if_neg w_1, if_neg w_2, if_neg w_3]) dX0_look_55
end
section
/-! throwing, and making arrays -/
theorem ty_long {D : va_G} {cl : List vw_C} {tys : List (ClassId × FieldType)} {U : State} {i j : Nat} {c1 c2 : ClassId} (hK : va_K D cl tys U) (h1 : tys[i]? = some (c1, .long)) (h2 : tys[j]? = some (c2, .long)) : c1 = c2 :=
  Option.some.inj ((show U.vm.findClass _ = some c1 from (hK.2 i _ h1).2).symm.trans (show U.vm.findClass _ = some c2 from (hK.2 j _ h2).2))
theorem ty_int {D : va_G} {cl : List vw_C} {tys : List (ClassId × FieldType)} {U : State} {i j : Nat} {c1 c2 : ClassId} (hK : va_K D cl tys U) (h1 : tys[i]? = some (c1, .int)) (h2 : tys[j]? = some (c2, .int)) : c1 = c2 :=
  Option.some.inj ((show U.vm.findClass _ = some c1 from (hK.2 i _ h1).2).symm.trans (show U.vm.findClass _ = some c2 from (hK.2 j _ h2).2))
theorem th_end {D : va_G} {ws : va_W} {tys : List (ClassId × FieldType)} {A : Nat → Prop} {ex : String → Prop} {s : State} {H : Heap} {locs : List Loc} {E : String} (hP : va_P D vwCl ws H) (hK : va_K D vwCl tys s) (hD : va_D A ws) (hS : va_S A s.heap H locs) (hex : ex E) :
    ∀ t : State, s.vm.Alike t.vm → H.size ≤ t.heap.size → (∀ q : Nat, q < H.size → t.heap[q]? = H[q]?) → thX D ws tys A ex E s t := fun t ha hz hk =>
  ⟨(), trivial, ⟨hex, hP.kept (fun k q hq => hk q.1 (hP k q hq).lt), va_K.moved ha hK, hD⟩, Nat.le_trans hS.1 hz, fun q h1 h2 => by rw [hk q (Nat.lt_of_lt_of_le h1 hS.1)]; exact hS.2.1 q h1 h2⟩
section R11
variable {p : Program} {l : Launch} {e : Env} {R : Room} {s : State} {m : MethodId} {args : Array Value} {below : List Frame} {meth : Method} {c : Code} {H : Heap} {locs : List Loc} {cells slots : Nat} {Q : State → Prop}
variable {y : MethodName} {bytes cc : ByteArray} {maxL nL n index pc mc ms : Nat} {ret : Option FieldType} {wsC : List Cond} {rm : Room} {Ts : List Cond} {own C : String} {b : Addr} {As rest st : List Value} {ls : Array Slot}
variable {D : va_G} {wall ws ws' ws1 wrst : va_W} {tys : List (ClassId × FieldType)} {q0 ci : Nat} {T : u_T} {NN : Nat} {fs : List Value} {A A0 : Nat → Prop} {H0 : Heap}
/-- a call that may throw, of a method that owns the places isC -/
theorem th_callV {i1 i2 a1 a2 : Nat} {t1 t2 E1 E2 : String} {post : Int32 → Prop} {ex : String → Prop} (S : CallFix p m c cc nL s args Ts own) (hM : vx_Met l y wsC rm (th D ws tys H.size i1 i2 t1 t2 a1 a2 E1 E2 (.ref b :: As)) (wrQ D ws' tys (va_A ws H.size) post) (thX D ws tys (va_A ws H.size) ex) mc ms (va_A ws H.size)) (cw : CallW R s args own C index y bytes maxL ret wsC rm mc ms n)
    (hK : va_K D vwCl tys s) (hP : va_P D vwCl wall H) (hD : va_D A0 wall) (hS : va_S A0 H0 H locs) (hA : ∀ q, H0.size ≤ q → A0 q) (hX : xw A0 i1 i2 t1 t2 a1 a2 E1 E2 s H) (isC isR : List Nat) (hC : isC.map (fun i => wall[i]?) = ws.map some) (hR : isR.map (fun i => wall[i]?) = wrst.map some) (h1 : va_nd isC = true) (h2 : va_nd isR = true) (hdis : ∀ i ∈ isR, i ∉ isC)
    (hc : vwCl[ci]? = some (C, T, NN)) (he : ws[q0]? = some (b, .inr (ci, fs))) (hn : As.length = n) (hsize : ls.size = nL) (hst : st = As.reverse ++ .ref b :: rest) (hW : (rest.map fun v => v.category).sum ≤ 8) (hdg : decode cc pc = .ok (.invokevirtual index, 3)) (hf : cells + mc ≤ R.cells ∧ slots + ms ≤ R.slots)
    (kx : ∀ (E : String) (ce : Cell) (q9 : Addr) (H1 : Heap) (locs1 : List Loc), ex E → va_P D vwCl (wrst ++ ws) H1 → va_D A0 (wrst ++ ws) → va_S A0 H0 H1 locs1 → H1[q9]? = some ce → ce.vm = .none → s.vm.findClass E = some ce.cls → vx_W p l e R s m args below meth c H1 locs1 (cells + mc) (slots + ms) Q (F0 m pc ls rest) q9)
    (kk : ∀ (r : Int32) (H1 : Heap) (locs1 : List Loc), post r → va_P D vwCl (wrst ++ ws') H1 → va_D A0 (wrst ++ ws') → va_S A0 H0 H1 locs1 → W p l e R s m args below meth c H1 locs1 (cells + mc) (slots + ms) Q (F0 m (pc + 3) ls (.int r :: rest))) : W p l e R s m args below meth c H locs cells slots Q (F0 m pc ls st) := by
  have hPc : va_P D vwCl ws H := hP.sub isC (sub_of hC)
  have hDc : va_D A0 ws := hD.sub isC h1 hC
  have hFc := va_free (wc := ws) hD hS hA isC hC
  refine vx_calli (vx_runV (As := As) (rest := rest) S hM cw ⟨th_blind, va_recv hK hPc hc he, fun U hU hW => ⟨rfl, by rw [hU], by rw [hU]; exact hPc, va_K.moved hW.alike hK, hDc.weaken (fun _ _ _ _ => trivial), by rw [hU]; exact (hX.narrow hFc).warm hW⟩⟩ rfl hn hsize hst (lv_room hW) hdg hf) hS (fun q _ h => hFc q h) hFc (fun q _ h => hFc q h) (fun E ce q9 u t H1 locs1 ht hvm hw hB hz hk hS1 hce hcv hcl => ?_) (fun r u t H1 locs1 ht hvm hw hB hz hk hS1 => ?_)
  · obtain ⟨hex, hP1, hK1, hD1⟩ := hB
    rw [ht] at hP1
    obtain ⟨hP2, hD2⟩ := va_join hP hD isC isR hC hR h2 hdis hk hFc hP1 hD1
    exact kx E ce q9 H1 locs1 hex hP2 hD2 hS1 hce hcv hcl
  · obtain ⟨hP1, hK1, hD1⟩ := hB
    rw [ht] at hP1
    obtain ⟨hP2, hD2⟩ := va_join hP hD isC isR hC hR h2 hdis hk hFc hP1 hD1
    exact kk r H1 locs1 hw hP2 hD2 hS1
theorem th_callVl {i1 i2 a1 a2 : Nat} {t1 t2 E1 E2 : String} {post : Int64 → Prop} {ex : String → Prop} (S : CallFix p m c cc nL s args Ts own) (hM : vx_Met l y wsC rm (th D ws tys H.size i1 i2 t1 t2 a1 a2 E1 E2 (.ref b :: As)) (wrL D ws' tys (va_A ws H.size) post) (thX D ws tys (va_A ws H.size) ex) mc ms (va_A ws H.size)) (cw : CallW R s args own C index y bytes maxL ret wsC rm mc ms n)
    (hK : va_K D vwCl tys s) (hP : va_P D vwCl wall H) (hD : va_D A0 wall) (hS : va_S A0 H0 H locs) (hA : ∀ q, H0.size ≤ q → A0 q) (hX : xw A0 i1 i2 t1 t2 a1 a2 E1 E2 s H) (isC isR : List Nat) (hC : isC.map (fun i => wall[i]?) = ws.map some) (hR : isR.map (fun i => wall[i]?) = wrst.map some) (h1 : va_nd isC = true) (h2 : va_nd isR = true) (hdis : ∀ i ∈ isR, i ∉ isC)
    (hc : vwCl[ci]? = some (C, T, NN)) (he : ws[q0]? = some (b, .inr (ci, fs))) (hn : As.length = n) (hsize : ls.size = nL) (hst : st = As.reverse ++ .ref b :: rest) (hW : (rest.map fun v => v.category).sum ≤ 8) (hdg : decode cc pc = .ok (.invokevirtual index, 3)) (hf : cells + mc ≤ R.cells ∧ slots + ms ≤ R.slots)
    (kx : ∀ (E : String) (ce : Cell) (q9 : Addr) (H1 : Heap) (locs1 : List Loc), ex E → va_P D vwCl (wrst ++ ws) H1 → va_D A0 (wrst ++ ws) → va_S A0 H0 H1 locs1 → H1[q9]? = some ce → ce.vm = .none → s.vm.findClass E = some ce.cls → vx_W p l e R s m args below meth c H1 locs1 (cells + mc) (slots + ms) Q (F0 m pc ls rest) q9)
    (kk : ∀ (r : Int64) (H1 : Heap) (locs1 : List Loc), post r → va_P D vwCl (wrst ++ ws') H1 → va_D A0 (wrst ++ ws') → va_S A0 H0 H1 locs1 → W p l e R s m args below meth c H1 locs1 (cells + mc) (slots + ms) Q (F0 m (pc + 3) ls (.long r :: rest))) : W p l e R s m args below meth c H locs cells slots Q (F0 m pc ls st) := by
  have hPc : va_P D vwCl ws H := hP.sub isC (sub_of hC)
  have hDc : va_D A0 ws := hD.sub isC h1 hC
  have hFc := va_free (wc := ws) hD hS hA isC hC
  refine vx_calll (vx_runV (As := As) (rest := rest) S hM cw ⟨th_blind, va_recv hK hPc hc he, fun U hU hW => ⟨rfl, by rw [hU], by rw [hU]; exact hPc, va_K.moved hW.alike hK, hDc.weaken (fun _ _ _ _ => trivial), by rw [hU]; exact (hX.narrow hFc).warm hW⟩⟩ rfl hn hsize hst (lv_room hW) hdg hf) hS (fun q _ h => hFc q h) hFc (fun q _ h => hFc q h) (fun E ce q9 u t H1 locs1 ht hvm hw hB hz hk hS1 hce hcv hcl => ?_) (fun r u t H1 locs1 ht hvm hw hB hz hk hS1 => ?_)
  · obtain ⟨hex, hP1, hK1, hD1⟩ := hB
    rw [ht] at hP1
    obtain ⟨hP2, hD2⟩ := va_join hP hD isC isR hC hR h2 hdis hk hFc hP1 hD1
    exact kx E ce q9 H1 locs1 hex hP2 hD2 hS1 hce hcv hcl
  · obtain ⟨hP1, hK1, hD1⟩ := hB
    rw [ht] at hP1
    obtain ⟨hP2, hD2⟩ := va_join hP hD isC isR hC hR h2 hdis hk hFc hP1 hD1
    exact kk r H1 locs1 hw hP2 hD2 hS1
/-- an array of longs, of ints -/
theorem ix_newl (hexec : p.tables.exec = Jvm.exec) (hb : c.code = cc) (harr : (Cond.arrayClass .long).before args s = true) (hK : va_K D vwCl tys s) (hP : va_P D vwCl ws H) (hD : va_D A ws) (hS : va_S A H0 H locs) (hA : ∀ q, H0.size ≤ q → A q) {k : Nat} (hk : k ≤ 67108864) (hcells : cells + 1 ≤ R.cells) (hslots : slots + k ≤ R.slots) (hdg : decode cc pc = .ok (.newarray .long, 2))
    (kk : ∀ (q : Nat) (cA : ClassId) (H1 : Heap), va_K D vwCl (tys ++ [(cA, .long)]) s → va_P D vwCl (ws ++ [(q, .inl (cA, k, .inr (.inl (fun _ => 0))))]) H1 → va_D A (ws ++ [(q, .inl (cA, k, .inr (.inl (fun _ => 0))))]) → va_S A H0 H1 locs →
      W p l e R s m args below meth c H1 locs (cells + 1) (slots + k) Q (F0 m (pc + 2) ls (.ref q :: rest))) : W p l e R s m args below meth c H locs cells slots Q (F0 m pc ls (.int (nI k) :: rest)) :=
  va_newa (atype := .long) (ty := .long) (a0 := (k, .inr (.inl (fun _ => 0)))) hexec hb harr rfl hK hP hD hS hA (fun _ => rfl) (nI_pos (by omega)) (nI_clamp (by omega)) (by show k * 8 ≤ 536870912; omega) hcells hslots hdg kk
theorem ix_newi (hexec : p.tables.exec = Jvm.exec) (hb : c.code = cc) (harr : (Cond.arrayClass .int).before args s = true) (hK : va_K D vwCl tys s) (hP : va_P D vwCl ws H) (hD : va_D A ws) (hS : va_S A H0 H locs) (hA : ∀ q, H0.size ≤ q → A q) {k : Nat} (hk : k ≤ 67108864) (hcells : cells + 1 ≤ R.cells) (hslots : slots + k ≤ R.slots) (hdg : decode cc pc = .ok (.newarray .int, 2))
    (kk : ∀ (q : Nat) (cA : ClassId) (H1 : Heap), va_K D vwCl (tys ++ [(cA, .int)]) s → va_P D vwCl (ws ++ [(q, .inl (cA, k, .inl (fun _ => 0)))]) H1 → va_D A (ws ++ [(q, .inl (cA, k, .inl (fun _ => 0)))]) → va_S A H0 H1 locs →
      W p l e R s m args below meth c H1 locs (cells + 1) (slots + k) Q (F0 m (pc + 2) ls (.ref q :: rest))) : W p l e R s m args below meth c H locs cells slots Q (F0 m pc ls (.int (nI k) :: rest)) :=
  va_newa (atype := .int) (ty := .int) (a0 := (k, .inl (fun _ => 0))) hexec hb harr rfl hK hP hD hS hA (fun _ => rfl) (nI_pos (by omega)) (nI_clamp (by omega)) (by show k * 4 ≤ 536870912; omega) hcells hslots hdg kk
end R11
end
section
/-- whether begin takes its arguments, whether next does (0 yes, 1 no further position, 2 not these) -/
def ga_okB (st mv cl : Int32) : Nat := if ga_isState st = 0 then 1 else if ga_isMoves mv = 0 then 1 else if ga_isClock cl = 0 then 1 else 0
def ga_okN (F : Nat → Int32) (n : Nat) (st mv : Int32) : Nat := if ga_takes F n = 0 then 1 else if ga_isState st = 0 then 2 else if ga_isMoves mv = 0 then 2 else 0
def ga_clN (F : Nat → Int32) (n : Nat) (ir : Int32) : Int32 := if ir = 0 then F ((n - 1) * 8 + 1) + nI 1 else nI 0
def ga_okO (n : Nat) (i w : Int32) : Nat := if ga_isPos n i = 0 then 1 else if w < 0 then 1 else if w < nI 8 then 0 else 1
def ga_okT (q : Int32) : Nat := if ga_isState q = 0 then 1 else 0
def ga_okM (n : Nat) (i q : Int32) : Nat := if ga_isPos n i = 0 then 1 else if ga_isPart q = 0 then 1 else 0
theorem ga_takes_n {F : Nat → Int32} {n : Nat} (h : ¬ ga_takes F n = 0) : 0 < n ∧ n < 640 := by
  by_cases h1 : n = 0
  · rw [ga_takes, if_pos h1] at h; exact absurd nI_0 h
  · by_cases h2 : n < 640
    · exact ⟨by omega, h2⟩
    · rw [ga_takes, if_neg h1, if_neg h2] at h; exact absurd nI_0 h
set_option maxHeartbeats 4000000 in
set_option maxRecDepth 100000 in
theorem k_X0_begin (l : Launch) (dC : Nat → ClassId) (dI : Nat → Nat → Nat) (cI cJ : ClassId) (x g t f : Nat) (G T : Nat → Int64) (F : Nat → Int32) (n : Nat) (st mv ck cl : Int32) (sz : Nat) (hn : n ≤ 640) {a1 a2 : Nat} (hno : l.stackTraces = false) : vx_Met l yX0_begin wsX0_begin ({ frames := 6, cells := 1, slots := 6, locals := 121 } : Room) (th (dC, dI) (wX cI cJ x g t f G T F n) (tK cI cJ) sz 43 43 "the state, the moves or the clock is none that there is" "the state, the moves or the clock is none that there is" a1 a2 "java/lang/IllegalArgumentException" "java/lang/IllegalArgumentException" [.ref x, .int st, .int mv, .int ck, .int cl]) (wrQ (dC, dI) (wX cI cJ x g t f G (ap_T G T 0) (ap_F G T F 0 st mv ck cl) (0 + 1)) (tK cI cJ) (va_A (wX cI cJ x g t f G T F n) sz) (fun r => ga_okB st mv cl = 0 ∧ r = ap_vd G T F 0 st mv ck cl)) (thX (dC, dI) (wX cI cJ x g t f G T F n) (tK cI cJ) (va_A (wX cI cJ x g t f G T F n) sz) (fun E => E = "java/lang/IllegalArgumentException" ∧ ga_okB st mv cl = 1)) 1 6 (va_A (wX cI cJ x g t f G T F n) sz) := by
  refine vx_ofW (cc := cX0_begin) (maxL := 5) (ret := (some .int)) (by decide) rfl ?_
  intro p e s m args below meth c s₁ B hml hnoEx hv
  obtain ⟨rfl, hsz, hP, hK, hD0, hX⟩ := hv
  have hx := B.exec
  have hb := B.bytes
  have hr := B.returns
  have hts := atoms_spec (ws := wsX0_begin) B.pre
  have hown : s.vm.findClass RX0 = some m.cls := findClass_of_methodNamed B.named
  have hlocks := B.notSynchronized
  have hinX0 : ∀ w ∈ u_ws RX0 TX0 4, w ∈ wsX0_begin := by decide +kernel
  have hf20 := hts (.fieldLink RX0 20 "GameArbiter" "positions" "I") (by decide +kernel)
  have hl := lv_entry ([.ref x, .int st, .int mv, .int ck, .int cl]) (n := 5) (Nat.le_of_ble_eq_true rfl)
  rw [lg_entry_eq]
  generalize (lg_sl ([.ref x, .int st, .int mv, .int ck, .int cl]) ++ List.replicate (5 - (lg_sl ([.ref x, .int st, .int mv, .int ck, .int cl])).length) Slot.unset).toArray = ls at hl ⊢
  replace hl : lv_has ls 5 [(0, .ref x), (1, .int st), (2, .int mv), (3, .int ck), (4, .int cl)] := hl
  subst hsz
  have hD := hD0.self (sz := s.heap.size)
  generalize hAe : va_A (wX cI cJ x g t f G T F n) s.heap.size = A at hD hX ⊢
  have hA : ∀ q : Nat, s.heap.size ≤ q → A q := fun q h => by rw [← hAe]; exact Or.inr h
  have hS : va_S A s.heap s.heap [] := va_S.rf
  replace hP : va_P (dC, dI) vwCl [(x, .inr (0, [.ref g, .ref t, .ref f, .int (nI n)])), (g, .inl (cJ, 4, .inr (.inl G))), (t, .inl (cJ, 2560, .inr (.inl T))), (f, .inl (cI, 5120, .inl F))] s.heap := hP
  replace hD : va_D A [(x, .inr (0, [.ref g, .ref t, .ref f, .int (nI n)])), (g, .inl (cJ, 4, .inr (.inl G))), (t, .inl (cJ, 2560, .inr (.inl T))), (f, .inl (cI, 5120, .inl F))] := hD
  refine lv_iload_n hx hb dX0_begin_0 rfl (lv_at hl 1 rfl) ?_
  refine pu_callS (rest := []) ⟨hx, hb, hml, hown, hts⟩ (k_X0_isState l st) (va_cwS 1 hts gX0_begin_X0_isState rfl rfl rfl (by decide +kernel) ⟨Nat.le_of_ble_eq_true rfl, Nat.le_of_ble_eq_true rfl⟩) rfl hl.1 rfl (Nat.le_of_ble_eq_true rfl) dX0_begin_1 ⟨Nat.zero_le _, Nat.zero_le _⟩ ?_
  refine lv_if_eq (tgt := 22) hx hb dX0_begin_4 (by decide) (fun c_1 => ?_) (fun c_1 => ?_)
  · exact vx_throwS (own := RX0) (cls := "java/lang/IllegalArgumentException") (text := "the state, the moves or the clock is none that there is") (names := ["java/lang/RuntimeException", "java/lang/Exception"]) (ik := 41) (ic := 45) hx hb hno hown (by decide +kernel) (by decide +kernel) (hts (.classLink RX0 41 "java/lang/IllegalArgumentException") (by decide +kernel)) (hts (.initialized "java/lang/IllegalArgumentException") (by decide +kernel)) hX.2.2.1 (vx_hat (L := vx_atS RX0 45 "java/lang/IllegalArgumentException" ["java/lang/RuntimeException", "java/lang/Exception"]) (B := [.castable "java/lang/IllegalArgumentException" "java/lang/IllegalArgumentException", .declares (dcl "java/lang/RuntimeException"), .declares (dcl "java/lang/Exception"), .declares (dcl "java/lang/Throwable")]) (fun w hw => hts w ((by decide +kernel : ∀ w ∈ (vx_atS RX0 45 "java/lang/IllegalArgumentException" ["java/lang/RuntimeException", "java/lang/Exception"]).filter goodWord, w ∈ wsX0_begin) w hw)) (by decide +kernel) (vx_c (va_Nw.use rfl hX.2.2.2.2.1) (vx_c (va_Nw.use rfl hX.2.2.2.2.2.2.1) (vx_c (va_Nw.use rfl hX.2.2.2.2.2.2.2.1) (vx_c (va_Nw.use rfl hX.2.2.2.2.2.2.2.2.1) vx_n))))) (by decide +kernel) hX.1 hX.2.1 hS (hl.1.trans hml.symm) dX0_begin_22 dX0_begin_25 dX0_begin_26 dX0_begin_28 dX0_begin_31 (fun z hz => (hnoEx z hz).elim) (Nat.le_of_ble_eq_true rfl) (by decide) (by decide) (by decide) hlocks (th_end hP hK hD hS (⟨rfl, by rw [ga_okB, if_pos c_1]⟩)) hS.2.2 (by decide) (by decide)
  · refine lv_iload_n hx hb dX0_begin_7 rfl (lv_at hl 2 rfl) ?_
    refine pu_callS (rest := []) ⟨hx, hb, hml, hown, hts⟩ (k_X0_isMoves l mv) (va_cwS 1 hts gX0_begin_X0_isMoves rfl rfl rfl (by decide +kernel) ⟨Nat.le_of_ble_eq_true rfl, Nat.le_of_ble_eq_true rfl⟩) rfl hl.1 rfl (Nat.le_of_ble_eq_true rfl) dX0_begin_8 ⟨Nat.zero_le _, Nat.zero_le _⟩ ?_
    refine lv_if_eq (tgt := 22) hx hb dX0_begin_11 (by decide) (fun c_2 => ?_) (fun c_2 => ?_)
    · exact vx_throwS (own := RX0) (cls := "java/lang/IllegalArgumentException") (text := "the state, the moves or the clock is none that there is") (names := ["java/lang/RuntimeException", "java/lang/Exception"]) (ik := 41) (ic := 45) hx hb hno hown (by decide +kernel) (by decide +kernel) (hts (.classLink RX0 41 "java/lang/IllegalArgumentException") (by decide +kernel)) (hts (.initialized "java/lang/IllegalArgumentException") (by decide +kernel)) hX.2.2.1 (vx_hat (L := vx_atS RX0 45 "java/lang/IllegalArgumentException" ["java/lang/RuntimeException", "java/lang/Exception"]) (B := [.castable "java/lang/IllegalArgumentException" "java/lang/IllegalArgumentException", .declares (dcl "java/lang/RuntimeException"), .declares (dcl "java/lang/Exception"), .declares (dcl "java/lang/Throwable")]) (fun w hw => hts w ((by decide +kernel : ∀ w ∈ (vx_atS RX0 45 "java/lang/IllegalArgumentException" ["java/lang/RuntimeException", "java/lang/Exception"]).filter goodWord, w ∈ wsX0_begin) w hw)) (by decide +kernel) (vx_c (va_Nw.use rfl hX.2.2.2.2.1) (vx_c (va_Nw.use rfl hX.2.2.2.2.2.2.1) (vx_c (va_Nw.use rfl hX.2.2.2.2.2.2.2.1) (vx_c (va_Nw.use rfl hX.2.2.2.2.2.2.2.2.1) vx_n))))) (by decide +kernel) hX.1 hX.2.1 hS (hl.1.trans hml.symm) dX0_begin_22 dX0_begin_25 dX0_begin_26 dX0_begin_28 dX0_begin_31 (fun z hz => (hnoEx z hz).elim) (Nat.le_of_ble_eq_true rfl) (by decide) (by decide) (by decide) hlocks (th_end hP hK hD hS (⟨rfl, by rw [ga_okB, if_neg c_1, if_pos c_2]⟩)) hS.2.2 (by decide) (by decide)
    · refine lv_iload hx hb dX0_begin_14 (lv_at hl 4 rfl) ?_
      refine pu_callS (rest := []) ⟨hx, hb, hml, hown, hts⟩ (k_X0_isClock l cl) (va_cwS 1 hts gX0_begin_X0_isClock rfl rfl rfl (by decide +kernel) ⟨Nat.le_of_ble_eq_true rfl, Nat.le_of_ble_eq_true rfl⟩) rfl hl.1 rfl (Nat.le_of_ble_eq_true rfl) dX0_begin_16 ⟨Nat.zero_le _, Nat.zero_le _⟩ ?_
      refine lv_if_ne (tgt := 32) hx hb dX0_begin_19 (by decide) (fun c_3 => ?_) (fun c_3 => ?_)
      · refine lv_aload_n hx hb dX0_begin_32 rfl (lv_at hl 0 rfl) ?_
        refine lv_iconst (v := nI 0) hx hb dX0_begin_33 (by decide) ?_
        refine va_put (D := (dC, dI)) (ci := 0) (v := .int (nI 0)) (ty := .int) (C := RX0) (T := TX0) (N := 4) hx hb hts hinX0 tyX0 tyX0_ok nmX0 hown hK hP hD hS 0 rfl rfl 3 (by decide) hf20 (fun _ h9 => h9) rfl (by decide +kernel) rfl rfl (Nat.le_of_ble_eq_true rfl) dX0_begin_34 (fun H locs hP hD hS => ?_)
        replace hP : va_P (dC, dI) vwCl [(x, .inr (0, [.ref g, .ref t, .ref f, .int (nI 0)])), (g, .inl (cJ, 4, .inr (.inl G))), (t, .inl (cJ, 2560, .inr (.inl T))), (f, .inl (cI, 5120, .inl F))] H := hP
        replace hD : va_D A [(x, .inr (0, [.ref g, .ref t, .ref f, .int (nI 0)])), (g, .inl (cJ, 4, .inr (.inl G))), (t, .inl (cJ, 2560, .inr (.inl T))), (f, .inl (cI, 5120, .inl F))] := hD
        refine lv_aload_n hx hb dX0_begin_37 rfl (lv_at hl 0 rfl) ?_
        refine lv_iload_n hx hb dX0_begin_38 rfl (lv_at hl 1 rfl) ?_
        refine lv_iload_n hx hb dX0_begin_39 rfl (lv_at hl 2 rfl) ?_
        refine lv_iload_n hx hb dX0_begin_40 rfl (lv_at hl 3 rfl) ?_
        refine lv_iload hx hb dX0_begin_41 (lv_at hl 4 rfl) ?_
        refine wr_callV (rest := []) (ws' := [(x, .inr (0, [.ref g, .ref t, .ref f, .int (nI (0 + 1))])), (g, .inl (cJ, 4, .inr (.inl G))), (t, .inl (cJ, 2560, .inr (.inl (ap_T G T 0)))), (f, .inl (cI, 5120, .inl (ap_F G T F 0 st mv ck cl)))]) (wrst := []) ⟨hx, hb, hml, hown, hts⟩ (k_X0_append l dC dI cI cJ x g t f G T F 0 st mv ck cl H.size (by omega)) (cwV 4 hts gX0_begin_X0_append rfl rfl rfl (by decide +kernel) ⟨Nat.le_of_ble_eq_true rfl, Nat.le_of_ble_eq_true rfl⟩) hK hP hD hS hA [0, 1, 2, 3] [] rfl rfl (by decide) (by decide) (by decide) rfl (q0 := 0) rfl rfl hl.1 rfl (Nat.le_of_ble_eq_true rfl) dX0_begin_43 ⟨Nat.zero_le _, Nat.zero_le _⟩ (fun r_4 H locs hr_4 hP hD hS => ?_)
        have hP : va_P (dC, dI) vwCl [(x, .inr (0, [.ref g, .ref t, .ref f, .int (nI (0 + 1))])), (g, .inl (cJ, 4, .inr (.inl G))), (t, .inl (cJ, 2560, .inr (.inl (ap_T G T 0)))), (f, .inl (cI, 5120, .inl (ap_F G T F 0 st mv ck cl)))] H := hP
        have hD : va_D A [(x, .inr (0, [.ref g, .ref t, .ref f, .int (nI (0 + 1))])), (g, .inl (cJ, 4, .inr (.inl G))), (t, .inl (cJ, 2560, .inr (.inl (ap_T G T 0)))), (f, .inl (cI, 5120, .inl (ap_F G T F 0 st mv ck cl)))] := hD
        refine lv_is hr_4 ?_
        refine vx_ret (W.widen (k := 1) (n := 6) (by omega) (by omega) ?_)
        exact wr_ret hx hb hr hlocks (⟨by rw [ga_okB, if_neg c_1, if_neg c_2, if_neg c_3], rfl⟩) (rfl) hP hK hD hS dX0_begin_46
      · exact vx_throwS (own := RX0) (cls := "java/lang/IllegalArgumentException") (text := "the state, the moves or the clock is none that there is") (names := ["java/lang/RuntimeException", "java/lang/Exception"]) (ik := 41) (ic := 45) hx hb hno hown (by decide +kernel) (by decide +kernel) (hts (.classLink RX0 41 "java/lang/IllegalArgumentException") (by decide +kernel)) (hts (.initialized "java/lang/IllegalArgumentException") (by decide +kernel)) hX.2.2.1 (vx_hat (L := vx_atS RX0 45 "java/lang/IllegalArgumentException" ["java/lang/RuntimeException", "java/lang/Exception"]) (B := [.castable "java/lang/IllegalArgumentException" "java/lang/IllegalArgumentException", .declares (dcl "java/lang/RuntimeException"), .declares (dcl "java/lang/Exception"), .declares (dcl "java/lang/Throwable")]) (fun w hw => hts w ((by decide +kernel : ∀ w ∈ (vx_atS RX0 45 "java/lang/IllegalArgumentException" ["java/lang/RuntimeException", "java/lang/Exception"]).filter goodWord, w ∈ wsX0_begin) w hw)) (by decide +kernel) (vx_c (va_Nw.use rfl hX.2.2.2.2.1) (vx_c (va_Nw.use rfl hX.2.2.2.2.2.2.1) (vx_c (va_Nw.use rfl hX.2.2.2.2.2.2.2.1) (vx_c (va_Nw.use rfl hX.2.2.2.2.2.2.2.2.1) vx_n))))) (by decide +kernel) hX.1 hX.2.1 hS (hl.1.trans hml.symm) dX0_begin_22 dX0_begin_25 dX0_begin_26 dX0_begin_28 dX0_begin_31 (fun z hz => (hnoEx z hz).elim) (Nat.le_of_ble_eq_true rfl) (by decide) (by decide) (by decide) hlocks (th_end hP hK hD hS (⟨rfl, by rw [ga_okB, if_neg c_1, if_neg c_2, if_pos c_3]⟩)) hS.2.2 (by decide) (by decide)
set_option maxHeartbeats 4000000 in
set_option maxRecDepth 100000 in
theorem k_X0_next (l : Launch) (dC : Nat → ClassId) (dI : Nat → Nat → Nat) (cI cJ : ClassId) (x g t f : Nat) (G T : Nat → Int64) (F : Nat → Int32) (n : Nat) (st mv ck ir : Int32) (sz : Nat) (hn : n ≤ 640) {a1 a2 : Nat} (hno : l.stackTraces = false) : vx_Met l yX0_next wsX0_next ({ frames := 6, cells := 1, slots := 6, locals := 121 } : Room) (th (dC, dI) (wX cI cJ x g t f G T F n) (tK cI cJ) sz 58 61 "the game takes no further position" "the state or the moves are none that there are" a1 a2 "java/lang/IllegalStateException" "java/lang/IllegalArgumentException" [.ref x, .int st, .int mv, .int ck, .int ir]) (wrQ (dC, dI) (wX cI cJ x g t f G (ap_T G T n) (ap_F G T F n st mv ck (ga_clN F n ir)) (n + 1)) (tK cI cJ) (va_A (wX cI cJ x g t f G T F n) sz) (fun r => ga_okN F n st mv = 0 ∧ r = ap_vd G T F n st mv ck (ga_clN F n ir))) (thX (dC, dI) (wX cI cJ x g t f G T F n) (tK cI cJ) (va_A (wX cI cJ x g t f G T F n) sz) (fun E => (E = "java/lang/IllegalStateException" ∧ ga_okN F n st mv = 1) ∨ (E = "java/lang/IllegalArgumentException" ∧ ga_okN F n st mv = 2))) 1 6 (va_A (wX cI cJ x g t f G T F n) sz) := by
  refine vx_ofW (cc := cX0_next) (maxL := 6) (ret := (some .int)) (by decide) rfl ?_
  intro p e s m args below meth c s₁ B hml hnoEx hv
  obtain ⟨rfl, hsz, hP, hK, hD0, hX⟩ := hv
  have hx := B.exec
  have hb := B.bytes
  have hr := B.returns
  have hts := atoms_spec (ws := wsX0_next) B.pre
  have hown : s.vm.findClass RX0 = some m.cls := findClass_of_methodNamed B.named
  have hlocks := B.notSynchronized
  have hinX0 : ∀ w ∈ u_ws RX0 TX0 4, w ∈ wsX0_next := by decide +kernel
  have hf20 := hts (.fieldLink RX0 20 "GameArbiter" "positions" "I") (by decide +kernel)
  have hl := lv_entry ([.ref x, .int st, .int mv, .int ck, .int ir]) (n := 6) (Nat.le_of_ble_eq_true rfl)
  rw [lg_entry_eq]
  generalize (lg_sl ([.ref x, .int st, .int mv, .int ck, .int ir]) ++ List.replicate (6 - (lg_sl ([.ref x, .int st, .int mv, .int ck, .int ir])).length) Slot.unset).toArray = ls at hl ⊢
  replace hl : lv_has ls 6 [(0, .ref x), (1, .int st), (2, .int mv), (3, .int ck), (4, .int ir)] := hl
  subst hsz
  have hD := hD0.self (sz := s.heap.size)
  generalize hAe : va_A (wX cI cJ x g t f G T F n) s.heap.size = A at hD hX ⊢
  have hA : ∀ q : Nat, s.heap.size ≤ q → A q := fun q h => by rw [← hAe]; exact Or.inr h
  have hS : va_S A s.heap s.heap [] := va_S.rf
  replace hP : va_P (dC, dI) vwCl [(x, .inr (0, [.ref g, .ref t, .ref f, .int (nI n)])), (g, .inl (cJ, 4, .inr (.inl G))), (t, .inl (cJ, 2560, .inr (.inl T))), (f, .inl (cI, 5120, .inl F))] s.heap := hP
  replace hD : va_D A [(x, .inr (0, [.ref g, .ref t, .ref f, .int (nI n)])), (g, .inl (cJ, 4, .inr (.inl G))), (t, .inl (cJ, 2560, .inr (.inl T))), (f, .inl (cI, 5120, .inl F))] := hD
  refine lv_aload_n hx hb dX0_next_0 rfl (lv_at hl 0 rfl) ?_
  refine rd_callV (rest := []) ⟨hx, hb, hml, hown, hts⟩ (k_X0_takesAnother l dC dI cI cJ x g t f G T F n (by omega)) (cwV 0 hts gX0_next_X0_takesAnother rfl rfl rfl (by decide +kernel) ⟨Nat.le_of_ble_eq_true rfl, Nat.le_of_ble_eq_true rfl⟩) hK hP rfl (q0 := 0) rfl rfl hl.1 rfl (Nat.le_of_ble_eq_true rfl) dX0_next_1 ⟨Nat.zero_le _, Nat.zero_le _⟩ ?_
  refine lv_if_ne (tgt := 17) hx hb dX0_next_4 (by decide) (fun c_1 => ?_) (fun c_1 => ?_)
  · have hnn := ga_takes_n c_1
    refine lv_iload_n hx hb dX0_next_17 rfl (lv_at hl 1 rfl) ?_
    refine pu_callS (rest := []) ⟨hx, hb, hml, hown, hts⟩ (k_X0_isState l st) (va_cwS 1 hts gX0_next_X0_isState rfl rfl rfl (by decide +kernel) ⟨Nat.le_of_ble_eq_true rfl, Nat.le_of_ble_eq_true rfl⟩) rfl hl.1 rfl (Nat.le_of_ble_eq_true rfl) dX0_next_18 ⟨Nat.zero_le _, Nat.zero_le _⟩ ?_
    refine lv_if_eq (tgt := 31) hx hb dX0_next_21 (by decide) (fun c_2 => ?_) (fun c_2 => ?_)
    · exact vx_throwS (own := RX0) (cls := "java/lang/IllegalArgumentException") (text := "the state or the moves are none that there are") (names := ["java/lang/RuntimeException", "java/lang/Exception"]) (ik := 41) (ic := 45) hx hb hno hown (by decide +kernel) (by decide +kernel) (hts (.classLink RX0 41 "java/lang/IllegalArgumentException") (by decide +kernel)) (hts (.initialized "java/lang/IllegalArgumentException") (by decide +kernel)) hX.2.2.2.1 (vx_hat (L := vx_atS RX0 45 "java/lang/IllegalArgumentException" ["java/lang/RuntimeException", "java/lang/Exception"]) (B := [.castable "java/lang/IllegalArgumentException" "java/lang/IllegalArgumentException", .declares (dcl "java/lang/RuntimeException"), .declares (dcl "java/lang/Exception"), .declares (dcl "java/lang/Throwable")]) (fun w hw => hts w ((by decide +kernel : ∀ w ∈ (vx_atS RX0 45 "java/lang/IllegalArgumentException" ["java/lang/RuntimeException", "java/lang/Exception"]).filter goodWord, w ∈ wsX0_next) w hw)) (by decide +kernel) (vx_c (va_Nw.use rfl hX.2.2.2.2.2.1) (vx_c (va_Nw.use rfl hX.2.2.2.2.2.2.1) (vx_c (va_Nw.use rfl hX.2.2.2.2.2.2.2.1) (vx_c (va_Nw.use rfl hX.2.2.2.2.2.2.2.2.1) vx_n))))) (by decide +kernel) hX.1 hX.2.1 hS (hl.1.trans hml.symm) dX0_next_31 dX0_next_34 dX0_next_35 dX0_next_37 dX0_next_40 (fun z hz => (hnoEx z hz).elim) (Nat.le_of_ble_eq_true rfl) (by decide) (by decide) (by decide) hlocks (th_end hP hK hD hS (Or.inr ⟨rfl, by rw [ga_okN, if_neg c_1, if_pos c_2]⟩)) hS.2.2 (by decide) (by decide)
    · refine lv_iload_n hx hb dX0_next_24 rfl (lv_at hl 2 rfl) ?_
      refine pu_callS (rest := []) ⟨hx, hb, hml, hown, hts⟩ (k_X0_isMoves l mv) (va_cwS 1 hts gX0_next_X0_isMoves rfl rfl rfl (by decide +kernel) ⟨Nat.le_of_ble_eq_true rfl, Nat.le_of_ble_eq_true rfl⟩) rfl hl.1 rfl (Nat.le_of_ble_eq_true rfl) dX0_next_25 ⟨Nat.zero_le _, Nat.zero_le _⟩ ?_
      refine lv_if_ne (tgt := 41) hx hb dX0_next_28 (by decide) (fun c_3 => ?_) (fun c_3 => ?_)
      · refine lv_iload hx hb dX0_next_41 (lv_at hl 4 rfl) ?_
        refine lv_if_eq (tgt := 50) hx hb dX0_next_43 (by decide) (fun c_4 => ?_) (fun c_4 => ?_)
        · refine lv_aload_n hx hb dX0_next_50 rfl (lv_at hl 0 rfl) ?_
          refine lv_aload_n hx hb dX0_next_51 rfl (lv_at hl 0 rfl) ?_
          refine va_get (D := (dC, dI)) (ci := 0) (v := .int (nI n)) (C := RX0) (T := TX0) (N := 4) hx hb hts hinX0 hown hK hP 0 rfl rfl 3 (by decide) hf20 (fun _ h9 => h9) rfl dX0_next_52 ?_
          refine lv_iconst (v := nI 1) hx hb dX0_next_55 (by decide) ?_
          refine lv_isub hx hb dX0_next_56 ?_
          refine lv_is (pk_sub (by omega)) ?_
          refine lv_iconst (v := nI 1) hx hb dX0_next_57 (by decide) ?_
          refine rd_callV (rest := []) ⟨hx, hb, hml, hown, hts⟩ (k_X0_factOf l dC dI cI cJ x g t f G T F n (n - 1) 1 (by omega)) (cwV 2 hts gX0_next_X0_factOf rfl rfl rfl (by decide +kernel) ⟨Nat.le_of_ble_eq_true rfl, Nat.le_of_ble_eq_true rfl⟩) hK hP rfl (q0 := 0) rfl rfl hl.1 rfl (Nat.le_of_ble_eq_true rfl) dX0_next_58 ⟨Nat.zero_le _, Nat.zero_le _⟩ ?_
          refine lv_iconst (v := nI 1) hx hb dX0_next_61 (by decide) ?_
          refine lv_iadd hx hb dX0_next_62 ?_
          refine lv_is (show (F ((n - 1) * 8 + 1)) + (nI 1) = ga_clN F n ir from by rw [ga_clN, if_pos c_4]) ?_
          refine lv_istore (lv' := [(5, .int (ga_clN F n ir)), (0, .ref x), (1, .int st), (2, .int mv), (3, .int ck), (4, .int ir)]) hx hb dX0_next_63 hl (by decide) rfl (fun ls hl => ?_)
          refine lv_aload_n hx hb dX0_next_65 rfl (lv_at hl 1 rfl) ?_
          refine lv_iload_n hx hb dX0_next_66 rfl (lv_at hl 2 rfl) ?_
          refine lv_iload_n hx hb dX0_next_67 rfl (lv_at hl 3 rfl) ?_
          refine lv_iload_n hx hb dX0_next_68 rfl (lv_at hl 4 rfl) ?_
          refine lv_iload hx hb dX0_next_69 (lv_at hl 0 rfl) ?_
          refine wr_callV (rest := []) (ws' := [(x, .inr (0, [.ref g, .ref t, .ref f, .int (nI (n + 1))])), (g, .inl (cJ, 4, .inr (.inl G))), (t, .inl (cJ, 2560, .inr (.inl (ap_T G T n)))), (f, .inl (cI, 5120, .inl (ap_F G T F n st mv ck (ga_clN F n ir))))]) (wrst := []) ⟨hx, hb, hml, hown, hts⟩ (k_X0_append l dC dI cI cJ x g t f G T F n st mv ck (ga_clN F n ir) s.heap.size (by omega)) (cwV 4 hts gX0_next_X0_append rfl rfl rfl (by decide +kernel) ⟨Nat.le_of_ble_eq_true rfl, Nat.le_of_ble_eq_true rfl⟩) hK hP hD hS hA [0, 1, 2, 3] [] rfl rfl (by decide) (by decide) (by decide) rfl (q0 := 0) rfl rfl hl.1 rfl (Nat.le_of_ble_eq_true rfl) dX0_next_71 ⟨Nat.zero_le _, Nat.zero_le _⟩ (fun r_5 H locs hr_5 hP hD hS => ?_)
          have hP : va_P (dC, dI) vwCl [(x, .inr (0, [.ref g, .ref t, .ref f, .int (nI (n + 1))])), (g, .inl (cJ, 4, .inr (.inl G))), (t, .inl (cJ, 2560, .inr (.inl (ap_T G T n)))), (f, .inl (cI, 5120, .inl (ap_F G T F n st mv ck (ga_clN F n ir))))] H := hP
          have hD : va_D A [(x, .inr (0, [.ref g, .ref t, .ref f, .int (nI (n + 1))])), (g, .inl (cJ, 4, .inr (.inl G))), (t, .inl (cJ, 2560, .inr (.inl (ap_T G T n)))), (f, .inl (cI, 5120, .inl (ap_F G T F n st mv ck (ga_clN F n ir))))] := hD
          refine lv_is hr_5 ?_
          refine vx_ret (W.widen (k := 1) (n := 6) (by omega) (by omega) ?_)
          exact wr_ret hx hb hr hlocks (⟨by rw [ga_okN, if_neg c_1, if_neg c_2, if_neg c_3], rfl⟩) (rfl) hP hK hD hS dX0_next_74
        · refine lv_iconst (v := nI 0) hx hb dX0_next_46 (by decide) ?_
          refine lv_goto (tgt := 63) hx hb dX0_next_47 (by decide) ?_
          refine lv_is (show nI 0 = ga_clN F n ir from by rw [ga_clN, if_neg c_4]) ?_
          refine lv_istore (lv' := [(5, .int (ga_clN F n ir)), (0, .ref x), (1, .int st), (2, .int mv), (3, .int ck), (4, .int ir)]) hx hb dX0_next_63 hl (by decide) rfl (fun ls hl => ?_)
          refine lv_aload_n hx hb dX0_next_65 rfl (lv_at hl 1 rfl) ?_
          refine lv_iload_n hx hb dX0_next_66 rfl (lv_at hl 2 rfl) ?_
          refine lv_iload_n hx hb dX0_next_67 rfl (lv_at hl 3 rfl) ?_
          refine lv_iload_n hx hb dX0_next_68 rfl (lv_at hl 4 rfl) ?_
          refine lv_iload hx hb dX0_next_69 (lv_at hl 0 rfl) ?_
          refine wr_callV (rest := []) (ws' := [(x, .inr (0, [.ref g, .ref t, .ref f, .int (nI (n + 1))])), (g, .inl (cJ, 4, .inr (.inl G))), (t, .inl (cJ, 2560, .inr (.inl (ap_T G T n)))), (f, .inl (cI, 5120, .inl (ap_F G T F n st mv ck (ga_clN F n ir))))]) (wrst := []) ⟨hx, hb, hml, hown, hts⟩ (k_X0_append l dC dI cI cJ x g t f G T F n st mv ck (ga_clN F n ir) s.heap.size (by omega)) (cwV 4 hts gX0_next_X0_append rfl rfl rfl (by decide +kernel) ⟨Nat.le_of_ble_eq_true rfl, Nat.le_of_ble_eq_true rfl⟩) hK hP hD hS hA [0, 1, 2, 3] [] rfl rfl (by decide) (by decide) (by decide) rfl (q0 := 0) rfl rfl hl.1 rfl (Nat.le_of_ble_eq_true rfl) dX0_next_71 ⟨Nat.zero_le _, Nat.zero_le _⟩ (fun r_6 H locs hr_6 hP hD hS => ?_)
          have hP : va_P (dC, dI) vwCl [(x, .inr (0, [.ref g, .ref t, .ref f, .int (nI (n + 1))])), (g, .inl (cJ, 4, .inr (.inl G))), (t, .inl (cJ, 2560, .inr (.inl (ap_T G T n)))), (f, .inl (cI, 5120, .inl (ap_F G T F n st mv ck (ga_clN F n ir))))] H := hP
          have hD : va_D A [(x, .inr (0, [.ref g, .ref t, .ref f, .int (nI (n + 1))])), (g, .inl (cJ, 4, .inr (.inl G))), (t, .inl (cJ, 2560, .inr (.inl (ap_T G T n)))), (f, .inl (cI, 5120, .inl (ap_F G T F n st mv ck (ga_clN F n ir))))] := hD
          refine lv_is hr_6 ?_
          refine vx_ret (W.widen (k := 1) (n := 6) (by omega) (by omega) ?_)
          exact wr_ret hx hb hr hlocks (⟨by rw [ga_okN, if_neg c_1, if_neg c_2, if_neg c_3], rfl⟩) (rfl) hP hK hD hS dX0_next_74
      · exact vx_throwS (own := RX0) (cls := "java/lang/IllegalArgumentException") (text := "the state or the moves are none that there are") (names := ["java/lang/RuntimeException", "java/lang/Exception"]) (ik := 41) (ic := 45) hx hb hno hown (by decide +kernel) (by decide +kernel) (hts (.classLink RX0 41 "java/lang/IllegalArgumentException") (by decide +kernel)) (hts (.initialized "java/lang/IllegalArgumentException") (by decide +kernel)) hX.2.2.2.1 (vx_hat (L := vx_atS RX0 45 "java/lang/IllegalArgumentException" ["java/lang/RuntimeException", "java/lang/Exception"]) (B := [.castable "java/lang/IllegalArgumentException" "java/lang/IllegalArgumentException", .declares (dcl "java/lang/RuntimeException"), .declares (dcl "java/lang/Exception"), .declares (dcl "java/lang/Throwable")]) (fun w hw => hts w ((by decide +kernel : ∀ w ∈ (vx_atS RX0 45 "java/lang/IllegalArgumentException" ["java/lang/RuntimeException", "java/lang/Exception"]).filter goodWord, w ∈ wsX0_next) w hw)) (by decide +kernel) (vx_c (va_Nw.use rfl hX.2.2.2.2.2.1) (vx_c (va_Nw.use rfl hX.2.2.2.2.2.2.1) (vx_c (va_Nw.use rfl hX.2.2.2.2.2.2.2.1) (vx_c (va_Nw.use rfl hX.2.2.2.2.2.2.2.2.1) vx_n))))) (by decide +kernel) hX.1 hX.2.1 hS (hl.1.trans hml.symm) dX0_next_31 dX0_next_34 dX0_next_35 dX0_next_37 dX0_next_40 (fun z hz => (hnoEx z hz).elim) (Nat.le_of_ble_eq_true rfl) (by decide) (by decide) (by decide) hlocks (th_end hP hK hD hS (Or.inr ⟨rfl, by rw [ga_okN, if_neg c_1, if_neg c_2, if_pos c_3]⟩)) hS.2.2 (by decide) (by decide)
  · exact vx_throwS (own := RX0) (cls := "java/lang/IllegalStateException") (text := "the game takes no further position") (names := ["java/lang/RuntimeException", "java/lang/Exception"]) (ik := 56) (ic := 60) hx hb hno hown (by decide +kernel) (by decide +kernel) (hts (.classLink RX0 56 "java/lang/IllegalStateException") (by decide +kernel)) (hts (.initialized "java/lang/IllegalStateException") (by decide +kernel)) hX.2.2.1 (vx_hat (L := vx_atS RX0 60 "java/lang/IllegalStateException" ["java/lang/RuntimeException", "java/lang/Exception"]) (B := [.castable "java/lang/IllegalStateException" "java/lang/IllegalStateException", .declares (dcl "java/lang/RuntimeException"), .declares (dcl "java/lang/Exception"), .declares (dcl "java/lang/Throwable")]) (fun w hw => hts w ((by decide +kernel : ∀ w ∈ (vx_atS RX0 60 "java/lang/IllegalStateException" ["java/lang/RuntimeException", "java/lang/Exception"]).filter goodWord, w ∈ wsX0_next) w hw)) (by decide +kernel) (vx_c (va_Nw.use rfl hX.2.2.2.2.1) (vx_c (va_Nw.use rfl hX.2.2.2.2.2.2.1) (vx_c (va_Nw.use rfl hX.2.2.2.2.2.2.2.1) (vx_c (va_Nw.use rfl hX.2.2.2.2.2.2.2.2.1) vx_n))))) (by decide +kernel) hX.1 hX.2.1 hS (hl.1.trans hml.symm) dX0_next_7 dX0_next_10 dX0_next_11 dX0_next_13 dX0_next_16 (fun z hz => (hnoEx z hz).elim) (Nat.le_of_ble_eq_true rfl) (by decide) (by decide) (by decide) hlocks (th_end hP hK hD hS (Or.inl ⟨rfl, by rw [ga_okN, if_pos c_1]⟩)) hS.2.2 (by decide) (by decide)
set_option maxHeartbeats 4000000 in
set_option maxRecDepth 100000 in
theorem k_X0_of (l : Launch) (dC : Nat → ClassId) (dI : Nat → Nat → Nat) (cI cJ : ClassId) (x g t f : Nat) (G T : Nat → Int64) (F : Nat → Int32) (n : Nat) (i w : Int32) (sz : Nat) (hn : n ≤ 640) {a1 a2 : Nat} (hno : l.stackTraces = false) : vx_Met l yX0_of wsX0_of ({ frames := 6, cells := 1, slots := 6, locals := 100 } : Room) (th (dC, dI) (wX cI cJ x g t f G T F n) (tK cI cJ) sz 72 72 "no such position, or no such fact of it" "no such position, or no such fact of it" a1 a2 "java/lang/IndexOutOfBoundsException" "java/lang/IndexOutOfBoundsException" [.ref x, .int i, .int w]) (wrQ (dC, dI) (wX cI cJ x g t f G T F n) (tK cI cJ) (va_A (wX cI cJ x g t f G T F n) sz) (fun r => ga_okO n i w = 0 ∧ r = F (i.toNatClampNeg * 8 + w.toNatClampNeg))) (thX (dC, dI) (wX cI cJ x g t f G T F n) (tK cI cJ) (va_A (wX cI cJ x g t f G T F n) sz) (fun E => E = "java/lang/IndexOutOfBoundsException" ∧ ga_okO n i w = 1)) 1 6 (va_A (wX cI cJ x g t f G T F n) sz) := by
  refine vx_ofW (cc := cX0_of) (maxL := 3) (ret := (some .int)) (by decide) rfl ?_
  intro p e s m args below meth c s₁ B hml hnoEx hv
  obtain ⟨rfl, hsz, hP, hK, hD0, hX⟩ := hv
  have hx := B.exec
  have hb := B.bytes
  have hr := B.returns
  have hts := atoms_spec (ws := wsX0_of) B.pre
  have hown : s.vm.findClass RX0 = some m.cls := findClass_of_methodNamed B.named
  have hlocks := B.notSynchronized
  have hinX0 : ∀ w ∈ u_ws RX0 TX0 4, w ∈ wsX0_of := by decide +kernel
  have hl := lv_entry ([.ref x, .int i, .int w]) (n := 3) (Nat.le_of_ble_eq_true rfl)
  rw [lg_entry_eq]
  generalize (lg_sl ([.ref x, .int i, .int w]) ++ List.replicate (3 - (lg_sl ([.ref x, .int i, .int w])).length) Slot.unset).toArray = ls at hl ⊢
  replace hl : lv_has ls 3 [(0, .ref x), (1, .int i), (2, .int w)] := hl
  subst hsz
  have hD := hD0.self (sz := s.heap.size)
  generalize hAe : va_A (wX cI cJ x g t f G T F n) s.heap.size = A at hD hX ⊢
  have hA : ∀ q : Nat, s.heap.size ≤ q → A q := fun q h => by rw [← hAe]; exact Or.inr h
  have hS : va_S A s.heap s.heap [] := va_S.rf
  replace hP : va_P (dC, dI) vwCl [(x, .inr (0, [.ref g, .ref t, .ref f, .int (nI n)])), (g, .inl (cJ, 4, .inr (.inl G))), (t, .inl (cJ, 2560, .inr (.inl T))), (f, .inl (cI, 5120, .inl F))] s.heap := hP
  replace hD : va_D A [(x, .inr (0, [.ref g, .ref t, .ref f, .int (nI n)])), (g, .inl (cJ, 4, .inr (.inl G))), (t, .inl (cJ, 2560, .inr (.inl T))), (f, .inl (cI, 5120, .inl F))] := hD
  refine lv_aload_n hx hb dX0_of_0 rfl (lv_at hl 0 rfl) ?_
  refine lv_iload_n hx hb dX0_of_1 rfl (lv_at hl 1 rfl) ?_
  refine rd_callV (rest := []) ⟨hx, hb, hml, hown, hts⟩ (k_X0_isPosition l dC dI cI cJ x g t f G T F n i) (cwV 1 hts gX0_of_X0_isPosition rfl rfl rfl (by decide +kernel) ⟨Nat.le_of_ble_eq_true rfl, Nat.le_of_ble_eq_true rfl⟩) hK hP rfl (q0 := 0) rfl rfl hl.1 rfl (Nat.le_of_ble_eq_true rfl) dX0_of_2 ⟨Nat.zero_le _, Nat.zero_le _⟩ ?_
  refine lv_if_eq (tgt := 18) hx hb dX0_of_5 (by decide) (fun c_1 => ?_) (fun c_1 => ?_)
  · exact vx_throwS (own := RX0) (cls := "java/lang/IndexOutOfBoundsException") (text := "no such position, or no such fact of it") (names := ["java/lang/RuntimeException", "java/lang/Exception"]) (ik := 70) (ic := 74) hx hb hno hown (by decide +kernel) (by decide +kernel) (hts (.classLink RX0 70 "java/lang/IndexOutOfBoundsException") (by decide +kernel)) (hts (.initialized "java/lang/IndexOutOfBoundsException") (by decide +kernel)) hX.2.2.1 (vx_hat (L := vx_atS RX0 74 "java/lang/IndexOutOfBoundsException" ["java/lang/RuntimeException", "java/lang/Exception"]) (B := [.castable "java/lang/IndexOutOfBoundsException" "java/lang/IndexOutOfBoundsException", .declares (dcl "java/lang/RuntimeException"), .declares (dcl "java/lang/Exception"), .declares (dcl "java/lang/Throwable")]) (fun w hw => hts w ((by decide +kernel : ∀ w ∈ (vx_atS RX0 74 "java/lang/IndexOutOfBoundsException" ["java/lang/RuntimeException", "java/lang/Exception"]).filter goodWord, w ∈ wsX0_of) w hw)) (by decide +kernel) (vx_c (va_Nw.use rfl hX.2.2.2.2.1) (vx_c (va_Nw.use rfl hX.2.2.2.2.2.2.1) (vx_c (va_Nw.use rfl hX.2.2.2.2.2.2.2.1) (vx_c (va_Nw.use rfl hX.2.2.2.2.2.2.2.2.1) vx_n))))) (by decide +kernel) hX.1 hX.2.1 hS (hl.1.trans hml.symm) dX0_of_18 dX0_of_21 dX0_of_22 dX0_of_24 dX0_of_27 (fun z hz => (hnoEx z hz).elim) (Nat.le_of_ble_eq_true rfl) (by decide) (by decide) (by decide) hlocks (th_end hP hK hD hS (⟨rfl, by rw [ga_okO, if_pos c_1]⟩)) hS.2.2 (by decide) (by decide)
  · obtain ⟨a, ha, rfl⟩ := ga_isPos_nat hn c_1
    refine lv_iload_n hx hb dX0_of_8 rfl (lv_at hl 2 rfl) ?_
    refine lv_if_lt (tgt := 18) hx hb dX0_of_9 (by decide) (fun c_2 => ?_) (fun c_2 => ?_)
    · exact vx_throwS (own := RX0) (cls := "java/lang/IndexOutOfBoundsException") (text := "no such position, or no such fact of it") (names := ["java/lang/RuntimeException", "java/lang/Exception"]) (ik := 70) (ic := 74) hx hb hno hown (by decide +kernel) (by decide +kernel) (hts (.classLink RX0 70 "java/lang/IndexOutOfBoundsException") (by decide +kernel)) (hts (.initialized "java/lang/IndexOutOfBoundsException") (by decide +kernel)) hX.2.2.1 (vx_hat (L := vx_atS RX0 74 "java/lang/IndexOutOfBoundsException" ["java/lang/RuntimeException", "java/lang/Exception"]) (B := [.castable "java/lang/IndexOutOfBoundsException" "java/lang/IndexOutOfBoundsException", .declares (dcl "java/lang/RuntimeException"), .declares (dcl "java/lang/Exception"), .declares (dcl "java/lang/Throwable")]) (fun w hw => hts w ((by decide +kernel : ∀ w ∈ (vx_atS RX0 74 "java/lang/IndexOutOfBoundsException" ["java/lang/RuntimeException", "java/lang/Exception"]).filter goodWord, w ∈ wsX0_of) w hw)) (by decide +kernel) (vx_c (va_Nw.use rfl hX.2.2.2.2.1) (vx_c (va_Nw.use rfl hX.2.2.2.2.2.2.1) (vx_c (va_Nw.use rfl hX.2.2.2.2.2.2.2.1) (vx_c (va_Nw.use rfl hX.2.2.2.2.2.2.2.2.1) vx_n))))) (by decide +kernel) hX.1 hX.2.1 hS (hl.1.trans hml.symm) dX0_of_18 dX0_of_21 dX0_of_22 dX0_of_24 dX0_of_27 (fun z hz => (hnoEx z hz).elim) (Nat.le_of_ble_eq_true rfl) (by decide) (by decide) (by decide) hlocks (th_end hP hK hD hS (⟨rfl, by rw [ga_okO, if_neg c_1, if_pos c_2]⟩)) hS.2.2 (by decide) (by decide)
    · refine lv_iload_n hx hb dX0_of_12 rfl (lv_at hl 2 rfl) ?_
      refine lv_bipush (v := nI 8) hx hb dX0_of_13 (by decide) ?_
      refine lv_icmp_lt (tgt := 28) hx hb dX0_of_15 (by decide) (fun c_3 => ?_) (fun c_3 => ?_)
      · obtain ⟨b9, hb9, rfl⟩ := nI_of c_2
        have hb8 : b9 < 8 := (nI_ltI (by omega) (by omega)).mp c_3
        refine lv_aload_n hx hb dX0_of_28 rfl (lv_at hl 0 rfl) ?_
        refine lv_iload_n hx hb dX0_of_29 rfl (lv_at hl 1 rfl) ?_
        refine lv_iload_n hx hb dX0_of_30 rfl (lv_at hl 2 rfl) ?_
        refine rd_callV (rest := []) ⟨hx, hb, hml, hown, hts⟩ (k_X0_factOf l dC dI cI cJ x g t f G T F n a b9 (by omega)) (cwV 2 hts gX0_of_X0_factOf rfl rfl rfl (by decide +kernel) ⟨Nat.le_of_ble_eq_true rfl, Nat.le_of_ble_eq_true rfl⟩) hK hP rfl (q0 := 0) rfl rfl hl.1 rfl (Nat.le_of_ble_eq_true rfl) dX0_of_31 ⟨Nat.zero_le _, Nat.zero_le _⟩ ?_
        refine vx_ret (W.widen (k := 1) (n := 6) (by omega) (by omega) ?_)
        exact wr_ret hx hb hr hlocks (⟨by rw [ga_okO, if_neg c_1, if_neg c_2, if_pos c_3], by rw [nI_clamp (by omega), nI_clamp (by omega)]⟩) (rfl) hP hK hD hS dX0_of_34
      · exact vx_throwS (own := RX0) (cls := "java/lang/IndexOutOfBoundsException") (text := "no such position, or no such fact of it") (names := ["java/lang/RuntimeException", "java/lang/Exception"]) (ik := 70) (ic := 74) hx hb hno hown (by decide +kernel) (by decide +kernel) (hts (.classLink RX0 70 "java/lang/IndexOutOfBoundsException") (by decide +kernel)) (hts (.initialized "java/lang/IndexOutOfBoundsException") (by decide +kernel)) hX.2.2.1 (vx_hat (L := vx_atS RX0 74 "java/lang/IndexOutOfBoundsException" ["java/lang/RuntimeException", "java/lang/Exception"]) (B := [.castable "java/lang/IndexOutOfBoundsException" "java/lang/IndexOutOfBoundsException", .declares (dcl "java/lang/RuntimeException"), .declares (dcl "java/lang/Exception"), .declares (dcl "java/lang/Throwable")]) (fun w hw => hts w ((by decide +kernel : ∀ w ∈ (vx_atS RX0 74 "java/lang/IndexOutOfBoundsException" ["java/lang/RuntimeException", "java/lang/Exception"]).filter goodWord, w ∈ wsX0_of) w hw)) (by decide +kernel) (vx_c (va_Nw.use rfl hX.2.2.2.2.1) (vx_c (va_Nw.use rfl hX.2.2.2.2.2.2.1) (vx_c (va_Nw.use rfl hX.2.2.2.2.2.2.2.1) (vx_c (va_Nw.use rfl hX.2.2.2.2.2.2.2.2.1) vx_n))))) (by decide +kernel) hX.1 hX.2.1 hS (hl.1.trans hml.symm) dX0_of_18 dX0_of_21 dX0_of_22 dX0_of_24 dX0_of_27 (fun z hz => (hnoEx z hz).elim) (Nat.le_of_ble_eq_true rfl) (by decide) (by decide) (by decide) hlocks (th_end hP hK hD hS (⟨rfl, by rw [ga_okO, if_neg c_1, if_neg c_2, if_neg c_3]⟩)) hS.2.2 (by decide) (by decide)
set_option maxHeartbeats 4000000 in
set_option maxRecDepth 100000 in
theorem k_X0_men (l : Launch) (dC : Nat → ClassId) (dI : Nat → Nat → Nat) (cI cJ : ClassId) (x g t f : Nat) (G T : Nat → Int64) (F : Nat → Int32) (n : Nat) (i q : Int32) (sz : Nat) (hn : n ≤ 640) {a1 a2 : Nat} (hno : l.stackTraces = false) : vx_Met l yX0_men wsX0_men ({ frames := 6, cells := 1, slots := 6, locals := 100 } : Room) (th (dC, dI) (wX cI cJ x g t f G T F n) (tK cI cJ) sz 75 75 "no such position, or no such part of it" "no such position, or no such part of it" a1 a2 "java/lang/IndexOutOfBoundsException" "java/lang/IndexOutOfBoundsException" [.ref x, .int i, .int q]) (wrL (dC, dI) (wX cI cJ x g t f G T F n) (tK cI cJ) (va_A (wX cI cJ x g t f G T F n) sz) (fun r => ga_okM n i q = 0 ∧ r = T (i.toNatClampNeg * 4 + q.toNatClampNeg))) (thX (dC, dI) (wX cI cJ x g t f G T F n) (tK cI cJ) (va_A (wX cI cJ x g t f G T F n) sz) (fun E => E = "java/lang/IndexOutOfBoundsException" ∧ ga_okM n i q = 1)) 1 6 (va_A (wX cI cJ x g t f G T F n) sz) := by
  refine vx_ofW (cc := cX0_men) (maxL := 3) (ret := (some .long)) (by decide) rfl ?_
  intro p e s m args below meth c s₁ B hml hnoEx hv
  obtain ⟨rfl, hsz, hP, hK, hD0, hX⟩ := hv
  have hx := B.exec
  have hb := B.bytes
  have hr := B.returns
  have hts := atoms_spec (ws := wsX0_men) B.pre
  have hown : s.vm.findClass RX0 = some m.cls := findClass_of_methodNamed B.named
  have hlocks := B.notSynchronized
  have hinX0 : ∀ w ∈ u_ws RX0 TX0 4, w ∈ wsX0_men := by decide +kernel
  have hf13 := hts (.fieldLink RX0 13 "GameArbiter" "told" "[J") (by decide +kernel)
  have hl := lv_entry ([.ref x, .int i, .int q]) (n := 3) (Nat.le_of_ble_eq_true rfl)
  rw [lg_entry_eq]
  generalize (lg_sl ([.ref x, .int i, .int q]) ++ List.replicate (3 - (lg_sl ([.ref x, .int i, .int q])).length) Slot.unset).toArray = ls at hl ⊢
  replace hl : lv_has ls 3 [(0, .ref x), (1, .int i), (2, .int q)] := hl
  subst hsz
  have hD := hD0.self (sz := s.heap.size)
  generalize hAe : va_A (wX cI cJ x g t f G T F n) s.heap.size = A at hD hX ⊢
  have hA : ∀ q : Nat, s.heap.size ≤ q → A q := fun q h => by rw [← hAe]; exact Or.inr h
  have hS : va_S A s.heap s.heap [] := va_S.rf
  replace hP : va_P (dC, dI) vwCl [(x, .inr (0, [.ref g, .ref t, .ref f, .int (nI n)])), (g, .inl (cJ, 4, .inr (.inl G))), (t, .inl (cJ, 2560, .inr (.inl T))), (f, .inl (cI, 5120, .inl F))] s.heap := hP
  replace hD : va_D A [(x, .inr (0, [.ref g, .ref t, .ref f, .int (nI n)])), (g, .inl (cJ, 4, .inr (.inl G))), (t, .inl (cJ, 2560, .inr (.inl T))), (f, .inl (cI, 5120, .inl F))] := hD
  refine lv_aload_n hx hb dX0_men_0 rfl (lv_at hl 0 rfl) ?_
  refine lv_iload_n hx hb dX0_men_1 rfl (lv_at hl 1 rfl) ?_
  refine rd_callV (rest := []) ⟨hx, hb, hml, hown, hts⟩ (k_X0_isPosition l dC dI cI cJ x g t f G T F n i) (cwV 1 hts gX0_men_X0_isPosition rfl rfl rfl (by decide +kernel) ⟨Nat.le_of_ble_eq_true rfl, Nat.le_of_ble_eq_true rfl⟩) hK hP rfl (q0 := 0) rfl rfl hl.1 rfl (Nat.le_of_ble_eq_true rfl) dX0_men_2 ⟨Nat.zero_le _, Nat.zero_le _⟩ ?_
  refine lv_if_eq (tgt := 15) hx hb dX0_men_5 (by decide) (fun c_1 => ?_) (fun c_1 => ?_)
  · exact vx_throwS (own := RX0) (cls := "java/lang/IndexOutOfBoundsException") (text := "no such position, or no such part of it") (names := ["java/lang/RuntimeException", "java/lang/Exception"]) (ik := 70) (ic := 74) hx hb hno hown (by decide +kernel) (by decide +kernel) (hts (.classLink RX0 70 "java/lang/IndexOutOfBoundsException") (by decide +kernel)) (hts (.initialized "java/lang/IndexOutOfBoundsException") (by decide +kernel)) hX.2.2.1 (vx_hat (L := vx_atS RX0 74 "java/lang/IndexOutOfBoundsException" ["java/lang/RuntimeException", "java/lang/Exception"]) (B := [.castable "java/lang/IndexOutOfBoundsException" "java/lang/IndexOutOfBoundsException", .declares (dcl "java/lang/RuntimeException"), .declares (dcl "java/lang/Exception"), .declares (dcl "java/lang/Throwable")]) (fun w hw => hts w ((by decide +kernel : ∀ w ∈ (vx_atS RX0 74 "java/lang/IndexOutOfBoundsException" ["java/lang/RuntimeException", "java/lang/Exception"]).filter goodWord, w ∈ wsX0_men) w hw)) (by decide +kernel) (vx_c (va_Nw.use rfl hX.2.2.2.2.1) (vx_c (va_Nw.use rfl hX.2.2.2.2.2.2.1) (vx_c (va_Nw.use rfl hX.2.2.2.2.2.2.2.1) (vx_c (va_Nw.use rfl hX.2.2.2.2.2.2.2.2.1) vx_n))))) (by decide +kernel) hX.1 hX.2.1 hS (hl.1.trans hml.symm) dX0_men_15 dX0_men_18 dX0_men_19 dX0_men_21 dX0_men_24 (fun z hz => (hnoEx z hz).elim) (Nat.le_of_ble_eq_true rfl) (by decide) (by decide) (by decide) hlocks (th_end hP hK hD hS (⟨rfl, by rw [ga_okM, if_pos c_1]⟩)) hS.2.2 (by decide) (by decide)
  · obtain ⟨a, ha, rfl⟩ := ga_isPos_nat hn c_1
    refine lv_iload_n hx hb dX0_men_8 rfl (lv_at hl 2 rfl) ?_
    refine pu_callS (rest := []) ⟨hx, hb, hml, hown, hts⟩ (k_X0_isPart l q) (va_cwS 1 hts gX0_men_X0_isPart rfl rfl rfl (by decide +kernel) ⟨Nat.le_of_ble_eq_true rfl, Nat.le_of_ble_eq_true rfl⟩) rfl hl.1 rfl (Nat.le_of_ble_eq_true rfl) dX0_men_9 ⟨Nat.zero_le _, Nat.zero_le _⟩ ?_
    refine lv_if_ne (tgt := 25) hx hb dX0_men_12 (by decide) (fun c_2 => ?_) (fun c_2 => ?_)
    · obtain ⟨b9, hb9, rfl⟩ := ga_isPart_nat c_2
      refine lv_aload_n hx hb dX0_men_25 rfl (lv_at hl 0 rfl) ?_
      refine va_get (D := (dC, dI)) (ci := 0) (v := .ref t) (C := RX0) (T := TX0) (N := 4) hx hb hts hinX0 hown hK hP 0 rfl rfl 1 (by decide) hf13 (fun _ h9 => h9) rfl dX0_men_26 ?_
      refine lv_iload_n hx hb dX0_men_29 rfl (lv_at hl 1 rfl) ?_
      refine lv_iconst (v := nI 4) hx hb dX0_men_30 (by decide) ?_
      refine lv_imul hx hb dX0_men_31 ?_
      refine lv_is (pk_mul _ _) ?_
      refine lv_iload_n hx hb dX0_men_32 rfl (lv_at hl 2 rfl) ?_
      refine lv_iadd hx hb dX0_men_33 ?_
      refine lv_is (nI_add _ _) ?_
      refine ix_lald hx hb hK hP 2 0 rfl rfl (show (a * 4) + b9 < 2560 by omega) (by decide) dX0_men_34 ?_
      refine vx_ret (W.widen (k := 1) (n := 6) (by omega) (by omega) ?_)
      exact wr_retl hx hb hr hlocks (⟨by rw [ga_okM, if_neg c_1, if_neg c_2], by rw [nI_clamp (by omega), nI_clamp (by omega)]⟩) (rfl) hP hK hD hS dX0_men_35
    · exact vx_throwS (own := RX0) (cls := "java/lang/IndexOutOfBoundsException") (text := "no such position, or no such part of it") (names := ["java/lang/RuntimeException", "java/lang/Exception"]) (ik := 70) (ic := 74) hx hb hno hown (by decide +kernel) (by decide +kernel) (hts (.classLink RX0 70 "java/lang/IndexOutOfBoundsException") (by decide +kernel)) (hts (.initialized "java/lang/IndexOutOfBoundsException") (by decide +kernel)) hX.2.2.1 (vx_hat (L := vx_atS RX0 74 "java/lang/IndexOutOfBoundsException" ["java/lang/RuntimeException", "java/lang/Exception"]) (B := [.castable "java/lang/IndexOutOfBoundsException" "java/lang/IndexOutOfBoundsException", .declares (dcl "java/lang/RuntimeException"), .declares (dcl "java/lang/Exception"), .declares (dcl "java/lang/Throwable")]) (fun w hw => hts w ((by decide +kernel : ∀ w ∈ (vx_atS RX0 74 "java/lang/IndexOutOfBoundsException" ["java/lang/RuntimeException", "java/lang/Exception"]).filter goodWord, w ∈ wsX0_men) w hw)) (by decide +kernel) (vx_c (va_Nw.use rfl hX.2.2.2.2.1) (vx_c (va_Nw.use rfl hX.2.2.2.2.2.2.1) (vx_c (va_Nw.use rfl hX.2.2.2.2.2.2.2.1) (vx_c (va_Nw.use rfl hX.2.2.2.2.2.2.2.2.1) vx_n))))) (by decide +kernel) hX.1 hX.2.1 hS (hl.1.trans hml.symm) dX0_men_15 dX0_men_18 dX0_men_19 dX0_men_21 dX0_men_24 (fun z hz => (hnoEx z hz).elim) (Nat.le_of_ble_eq_true rfl) (by decide) (by decide) (by decide) hlocks (th_end hP hK hD hS (⟨rfl, by rw [ga_okM, if_neg c_1, if_pos c_2]⟩)) hS.2.2 (by decide) (by decide)
set_option maxHeartbeats 4000000 in
set_option maxRecDepth 100000 in
theorem k_X0_times (l : Launch) (dC : Nat → ClassId) (dI : Nat → Nat → Nat) (cI cJ : ClassId) (x g t f : Nat) (G T : Nat → Int64) (F : Nat → Int32) (n : Nat) (q : Int32) (sz : Nat) (hn : n ≤ 640) {a1 a2 : Nat} (hno : l.stackTraces = false) : vx_Met l yX0_times wsX0_times ({ frames := 6, cells := 1, slots := 6, locals := 100 } : Room) (th (dC, dI) (wX cI cJ x g t f G T F n) (tK cI cJ) sz 77 77 "the state is none that there is" "the state is none that there is" a1 a2 "java/lang/IllegalArgumentException" "java/lang/IllegalArgumentException" [.ref x, .int q]) (wrQ (dC, dI) (wX cI cJ x g t f G T F n) (tK cI cJ) (va_A (wX cI cJ x g t f G T F n) sz) (fun r => ga_okT q = 0 ∧ r = ga_cup F n (ga_last G T F q n))) (thX (dC, dI) (wX cI cJ x g t f G T F n) (tK cI cJ) (va_A (wX cI cJ x g t f G T F n) sz) (fun E => E = "java/lang/IllegalArgumentException" ∧ ga_okT q = 1)) 1 6 (va_A (wX cI cJ x g t f G T F n) sz) := by
  refine vx_ofW (cc := cX0_times) (maxL := 2) (ret := (some .int)) (by decide) rfl ?_
  intro p e s m args below meth c s₁ B hml hnoEx hv
  obtain ⟨rfl, hsz, hP, hK, hD0, hX⟩ := hv
  have hx := B.exec
  have hb := B.bytes
  have hr := B.returns
  have hts := atoms_spec (ws := wsX0_times) B.pre
  have hown : s.vm.findClass RX0 = some m.cls := findClass_of_methodNamed B.named
  have hlocks := B.notSynchronized
  have hinX0 : ∀ w ∈ u_ws RX0 TX0 4, w ∈ wsX0_times := by decide +kernel
  have hl := lv_entry ([.ref x, .int q]) (n := 2) (Nat.le_of_ble_eq_true rfl)
  rw [lg_entry_eq]
  generalize (lg_sl ([.ref x, .int q]) ++ List.replicate (2 - (lg_sl ([.ref x, .int q])).length) Slot.unset).toArray = ls at hl ⊢
  replace hl : lv_has ls 2 [(0, .ref x), (1, .int q)] := hl
  subst hsz
  have hD := hD0.self (sz := s.heap.size)
  generalize hAe : va_A (wX cI cJ x g t f G T F n) s.heap.size = A at hD hX ⊢
  have hA : ∀ q : Nat, s.heap.size ≤ q → A q := fun q h => by rw [← hAe]; exact Or.inr h
  have hS : va_S A s.heap s.heap [] := va_S.rf
  replace hP : va_P (dC, dI) vwCl [(x, .inr (0, [.ref g, .ref t, .ref f, .int (nI n)])), (g, .inl (cJ, 4, .inr (.inl G))), (t, .inl (cJ, 2560, .inr (.inl T))), (f, .inl (cI, 5120, .inl F))] s.heap := hP
  replace hD : va_D A [(x, .inr (0, [.ref g, .ref t, .ref f, .int (nI n)])), (g, .inl (cJ, 4, .inr (.inl G))), (t, .inl (cJ, 2560, .inr (.inl T))), (f, .inl (cI, 5120, .inl F))] := hD
  refine lv_iload_n hx hb dX0_times_0 rfl (lv_at hl 1 rfl) ?_
  refine pu_callS (rest := []) ⟨hx, hb, hml, hown, hts⟩ (k_X0_isState l q) (va_cwS 1 hts gX0_times_X0_isState rfl rfl rfl (by decide +kernel) ⟨Nat.le_of_ble_eq_true rfl, Nat.le_of_ble_eq_true rfl⟩) rfl hl.1 rfl (Nat.le_of_ble_eq_true rfl) dX0_times_1 ⟨Nat.zero_le _, Nat.zero_le _⟩ ?_
  refine lv_if_ne (tgt := 17) hx hb dX0_times_4 (by decide) (fun c_1 => ?_) (fun c_1 => ?_)
  · refine lv_aload_n hx hb dX0_times_17 rfl (lv_at hl 0 rfl) ?_
    refine lv_aload_n hx hb dX0_times_18 rfl (lv_at hl 0 rfl) ?_
    refine lv_iload_n hx hb dX0_times_19 rfl (lv_at hl 1 rfl) ?_
    refine rd_callV (rest := [.ref x]) ⟨hx, hb, hml, hown, hts⟩ (k_X0_lastSame l dC dI cI cJ x g t f G T F n q (by omega)) (cwV 1 hts gX0_times_X0_lastSame rfl rfl rfl (by decide +kernel) ⟨Nat.le_of_ble_eq_true rfl, Nat.le_of_ble_eq_true rfl⟩) hK hP rfl (q0 := 0) rfl rfl hl.1 rfl (Nat.le_of_ble_eq_true rfl) dX0_times_20 ⟨Nat.zero_le _, Nat.zero_le _⟩ ?_
    refine rd_callV (rest := []) ⟨hx, hb, hml, hown, hts⟩ (k_X0_countUpTo l dC dI cI cJ x g t f G T F n (ga_last G T F q n) (by omega)) (cwV 1 hts gX0_times_X0_countUpTo rfl rfl rfl (by decide +kernel) ⟨Nat.le_of_ble_eq_true rfl, Nat.le_of_ble_eq_true rfl⟩) hK hP rfl (q0 := 0) rfl rfl hl.1 rfl (Nat.le_of_ble_eq_true rfl) dX0_times_23 ⟨Nat.zero_le _, Nat.zero_le _⟩ ?_
    refine vx_ret (W.widen (k := 1) (n := 6) (by omega) (by omega) ?_)
    exact wr_ret hx hb hr hlocks (⟨by rw [ga_okT, if_neg c_1], rfl⟩) (rfl) hP hK hD hS dX0_times_26
  · exact vx_throwS (own := RX0) (cls := "java/lang/IllegalArgumentException") (text := "the state is none that there is") (names := ["java/lang/RuntimeException", "java/lang/Exception"]) (ik := 41) (ic := 45) hx hb hno hown (by decide +kernel) (by decide +kernel) (hts (.classLink RX0 41 "java/lang/IllegalArgumentException") (by decide +kernel)) (hts (.initialized "java/lang/IllegalArgumentException") (by decide +kernel)) hX.2.2.1 (vx_hat (L := vx_atS RX0 45 "java/lang/IllegalArgumentException" ["java/lang/RuntimeException", "java/lang/Exception"]) (B := [.castable "java/lang/IllegalArgumentException" "java/lang/IllegalArgumentException", .declares (dcl "java/lang/RuntimeException"), .declares (dcl "java/lang/Exception"), .declares (dcl "java/lang/Throwable")]) (fun w hw => hts w ((by decide +kernel : ∀ w ∈ (vx_atS RX0 45 "java/lang/IllegalArgumentException" ["java/lang/RuntimeException", "java/lang/Exception"]).filter goodWord, w ∈ wsX0_times) w hw)) (by decide +kernel) (vx_c (va_Nw.use rfl hX.2.2.2.2.1) (vx_c (va_Nw.use rfl hX.2.2.2.2.2.2.1) (vx_c (va_Nw.use rfl hX.2.2.2.2.2.2.2.1) (vx_c (va_Nw.use rfl hX.2.2.2.2.2.2.2.2.1) vx_n))))) (by decide +kernel) hX.1 hX.2.1 hS (hl.1.trans hml.symm) dX0_times_7 dX0_times_10 dX0_times_11 dX0_times_13 dX0_times_16 (fun z hz => (hnoEx z hz).elim) (Nat.le_of_ble_eq_true rfl) (by decide) (by decide) (by decide) hlocks (th_end hP hK hD hS (⟨rfl, by rw [ga_okT, if_pos c_1]⟩)) hS.2.2 (by decide) (by decide)
end
section
/-! what the reference's methods answer, as functions of its cells: N the squares given, M the squares told, S states, C clocks, V verdicts -/
def mo_isState (p : Int32) : Int32 := if p >>> (nI 5 &&& 31) < 0 then nI 0 else if p >>> (nI 5 &&& 31) < nI 8 then nI 1 else if p >>> (nI 5 &&& 31) = nI 15 then nI 1 else nI 0
def mo_sm (S M : Nat → Int32) (i j : Nat) : Nat → Int32
  | 0 => if S i = S j then nI 1 else nI 0
  | k + 1 => if mo_sm S M i j k = 0 then nI 0 else if M (64 * i + k) = M (64 * j + k) then nI 1 else nI 0
def mo_nx (S M N : Nat → Int32) (i : Nat) (q : Int32) : Nat → Int32
  | 0 => if S i = q then nI 1 else nI 0
  | k + 1 => if mo_nx S M N i q k = 0 then nI 0 else if M (64 * i + k) = N k then nI 1 else nI 0
def mo_cnt (S M : Nat → Int32) (i : Nat) : Nat → Nat
  | 0 => 0
  | j + 1 => mo_cnt S M i j + (if mo_sm S M i j 64 = 0 then 0 else 1)
def mo_hm (M : Nat → Int32) (i : Nat) (man : Int32) : Nat → Nat
  | 0 => 0
  | k + 1 => mo_hm M i man k + (if M (64 * i + k) = man then 1 else 0)
def mo_co (M : Nat → Int32) (i : Nat) (man : Int32) : Nat → Nat
  | 0 => 0
  | k + 1 => if M (64 * i + k) = man then (k % 8 + k / 8) % 2 else mo_co M i man k
def mo_dead (M : Nat → Int32) (i : Nat) : Int32 :=
  if mo_hm M i (nI 6) 64 = 1 then (if mo_hm M i (nI 12) 64 = 1 then (if 4 ≤ 64 - mo_hm M i (nI 0) 64 then (if 64 - mo_hm M i (nI 0) 64 = 4 then (if mo_hm M i (nI 3) 64 = 1 then (if mo_hm M i (nI 9) 64 = 1 then (if mo_co M i (nI 3) 64 = mo_co M i (nI 9) 64 then nI 1 else nI 0) else nI 0) else nI 0) else nI 0)
    else (if 64 - mo_hm M i (nI 0) 64 = 2 then nI 1 else if ((mo_hm M i (nI 2) 64 + mo_hm M i (nI 8) 64) + mo_hm M i (nI 3) 64) + mo_hm M i (nI 9) 64 = 1 then nI 1 else nI 0)) else nI 0) else nI 0
def mo_ver (S M C : Nat → Int32) (i : Nat) (mv ck : Int32) : Int32 := if mv = 0 then (if ck = 0 then nI 2 else nI 1) else if mo_dead M i = 0 then (if mo_cnt S M i (i + 1) < 5 then (if C i < nI 150 then (if mo_cnt S M i (i + 1) < 3 then (if C i < nI 100 then nI 0 else nI 7) else (if C i < nI 100 then nI 6 else nI 8)) else nI 5) else nI 4) else nI 3
def mo_sqN (N : Nat → Int32) (a : Nat) (g : Int64) (k : Nat) : Nat → Int32 := fun j => if 16 * a ≤ j ∧ j < 16 * a + k then nI (nib g (j - 16 * a)) else N j
def mo_adM (M N : Nat → Int32) (n k : Nat) : Nat → Int32 := fun j => if 64 * n ≤ j ∧ j < 64 * n + k then N (j - 64 * n) else M j
def mo_fi (S M : Nat → Int32) (i : Nat) : Nat → Nat
  | 0 => i
  | j + 1 => if mo_sm S M i j 64 = 0 then mo_fi S M i j else if mo_fi S M i j ≤ j then mo_fi S M i j else j
def mo_be (S M : Nat → Int32) (i : Nat) : Nat → Int32
  | 0 => -1
  | j + 1 => if mo_sm S M i j 64 = 0 then mo_be S M i j else nI j
def mo_mn (M : Nat → Int32) (a b : Nat) : Nat → Int64
  | 0 => 0
  | k + 1 => (mo_mn M a b k <<< ((nI 4).toInt64 &&& 63)) ||| (M ((64 * a + 16 * b) + k)).toInt64
def mo_tm (S M N : Nat → Int32) (q : Int32) : Nat → Nat
  | 0 => 0
  | j + 1 => mo_tm S M N q j + (if mo_nx S M N j q 64 = 0 then 0 else 1)
def mo_df (S M : Nat → Int32) : Nat → Nat
  | 0 => 0
  | j + 1 => mo_df S M j + (if mo_cnt S M j (j + 1) = 1 then 1 else 0)
def mo_gc (S M : Nat → Int32) : Nat → Nat
  | 0 => 0
  | j + 1 => if mo_cnt S M j (j + 1) ≤ mo_gc S M j then mo_gc S M j else mo_cnt S M j (j + 1)
def mo_gl (C : Nat → Int32) : Nat → Int32
  | 0 => nI 0
  | j + 1 => if C j ≤ mo_gl C j then mo_gl C j else C j
theorem mo_sm_nar (S M : Nat → Int32) (i j : Nat) : ∀ k, narrow .boolean (.int (mo_sm S M i j k)) = .int (mo_sm S M i j k)
  | 0 => by unfold mo_sm; split <;> rfl
  | k + 1 => by unfold mo_sm; split <;> (try split) <;> rfl
theorem mo_nx_nar (S M N : Nat → Int32) (i : Nat) (q : Int32) : ∀ k, narrow .boolean (.int (mo_nx S M N i q k)) = .int (mo_nx S M N i q k)
  | 0 => by unfold mo_nx; split <;> rfl
  | k + 1 => by unfold mo_nx; split <;> (try split) <;> rfl
theorem mo_cnt_le (S M : Nat → Int32) (i : Nat) : ∀ k, mo_cnt S M i k ≤ k
  | 0 => Nat.le_refl 0
  | k + 1 => by
    have := mo_cnt_le S M i k
    unfold mo_cnt
    split <;> omega
theorem mo_hm_le (M : Nat → Int32) (i : Nat) (man : Int32) : ∀ k, mo_hm M i man k ≤ k
  | 0 => Nat.le_refl 0
  | k + 1 => by
    have := mo_hm_le M i man k
    unfold mo_hm
    split <;> omega
theorem mo_co_lt (M : Nat → Int32) (i : Nat) (man : Int32) : ∀ k, mo_co M i man k < 2
  | 0 => by unfold mo_co; decide
  | k + 1 => by
    have := mo_co_lt M i man k
    unfold mo_co
    split <;> omega
theorem mo_fi_le (S M : Nat → Int32) (i : Nat) : ∀ k, mo_fi S M i k ≤ i
  | 0 => Nat.le_refl i
  | k + 1 => by
    have := mo_fi_le S M i k
    unfold mo_fi
    split
    · omega
    · split <;> omega
theorem mo_tm_le (S M N : Nat → Int32) (q : Int32) : ∀ k, mo_tm S M N q k ≤ k
  | 0 => Nat.le_refl 0
  | k + 1 => by
    have := mo_tm_le S M N q k
    unfold mo_tm
    split <;> omega
theorem mo_df_le (S M : Nat → Int32) : ∀ k, mo_df S M k ≤ k
  | 0 => Nat.le_refl 0
  | k + 1 => by
    have := mo_df_le S M k
    unfold mo_df
    split <;> omega
theorem mo_gc_le (S M : Nat → Int32) : ∀ k, mo_gc S M k ≤ k
  | 0 => Nat.le_refl 0
  | k + 1 => by
    have h1 := mo_gc_le S M k
    have h2 := mo_cnt_le S M k (k + 1)
    unfold mo_gc
    split <;> omega
theorem mo_sqN_0 (N : Nat → Int32) (a : Nat) (g : Int64) : mo_sqN N a g 0 = N := by
  funext j
  unfold mo_sqN
  rw [if_neg (by omega)]
theorem mo_sqN_s (N : Nat → Int32) (a : Nat) (g : Int64) (k : Nat) : upd (mo_sqN N a g k) (16 * a + k) (nI (nib g k)) = mo_sqN N a g (k + 1) := by
  funext j
  unfold mo_sqN upd
  by_cases h : j = 16 * a + k
  · rw [if_pos h, if_pos (by omega), h, show 16 * a + k - 16 * a = k by omega]
  · rw [if_neg h]
    dsimp only
    by_cases h2 : 16 * a ≤ j ∧ j < 16 * a + k
    · rw [if_pos h2, if_pos (by omega)]
    · rw [if_neg h2, if_neg (by omega)]
theorem mo_adM_0 (M N : Nat → Int32) (n : Nat) : mo_adM M N n 0 = M := by
  funext j
  unfold mo_adM
  rw [if_neg (by omega)]
theorem mo_adM_s (M N : Nat → Int32) (n k : Nat) : upd (mo_adM M N n k) (64 * n + k) (N k) = mo_adM M N n (k + 1) := by
  funext j
  unfold mo_adM upd
  by_cases h : j = 64 * n + k
  · rw [if_pos h, if_pos (by omega), h, show 64 * n + k - 64 * n = k by omega]
  · rw [if_neg h]
    dsimp only
    by_cases h2 : 64 * n ≤ j ∧ j < 64 * n + k
    · rw [if_pos h2, if_pos (by omega)]
    · rw [if_neg h2, if_neg (by omega)]
/-- a choice by a number -/
def sel {α : Type} (k : Nat) (a b : α) : α := if k = 0 then a else b
noncomputable def mo_sqR (q : Int32) (g : Int64) : Int32 := if q < 0 then nI 0 else if q ≤ nI 3 then @ite Int32 (∀ k, k < 16 → uN g / 2 ^ (4 * k) % 16 ≤ 12) (Classical.propDecidable _) (nI 1) (nI 0) else nI 0
noncomputable def mo_sqW (N : Nat → Int32) (q : Int32) (g : Int64) : Nat → Int32 := if q < 0 then N else if q ≤ nI 3 then @ite (Nat → Int32) (∀ k, k < 16 → uN g / 2 ^ (4 * k) % 16 ≤ 12) (Classical.propDecidable _) (mo_sqN N q.toNatClampNeg g 16) N else N
def mo_okB (st mv cl : Int32) : Nat := if mo_isState st = 0 then 1 else if mv < 0 then 1 else if nI 300 < mv then 1 else if cl < 0 then 1 else if nI 1000 < cl then 1 else 0
def mo_okA (st mv : Int32) : Nat := if mo_isState st = 0 then 2 else if mv < 0 then 2 else if nI 300 < mv then 2 else 0
def mo_okN (V : Nat → Int32) (n : Nat) (st mv : Int32) : Nat := if n = 0 then 1 else if n = 640 then 1 else if V (n - 1) ≤ 0 then mo_okA st mv else if nI 6 ≤ V (n - 1) then mo_okA st mv else 1
def mo_clN (C : Nat → Int32) (n : Nat) (ir : Int32) : Int32 := if ir = 0 then C (n - 1) + nI 1 else nI 0
def mo_okO (n : Nat) (i w : Int32) : Nat := if ga_isPos n i = 0 then 1 else if w < 0 then 1 else if nI 7 < w then 1 else 0
def mo_okM (n : Nat) (i q : Int32) : Nat := if ga_isPos n i = 0 then 1 else if q < 0 then 1 else if nI 3 < q then 1 else 0
def mo_okT (q : Int32) : Nat := if mo_isState q = 0 then 1 else 0
def mo_of (S M C V : Nat → Int32) (i : Nat) (w : Int32) : Int32 := if w = nI 0 then nI (mo_cnt S M i (i + 1)) else if w = nI 1 then C i else if w = nI 2 then V i else if w = nI 3 then nI (mo_fi S M i i) else if w = nI 4 then mo_be S M i i else if w = nI 5 then S i else if w = nI 6 then (if mo_dead M i = 0 then nI 0 else nI 1) else nI (64 - mo_hm M i (nI 0) 64)
def mo_look (S M C : Nat → Int32) (n : Nat) (q : Int32) : Int32 := if q = 0 then nI n else if q = nI 1 then nI (mo_df S M n) else if q = nI 2 then nI (mo_gc S M n) else if q = nI 3 then mo_gl C n else -1
end
section
/-! THE TWO STATES, AND THAT THEY STAY TIED: no machine here -/
theorem n1_ne : ¬ nI 1 = 0 := by decide
theorem n0_eq : nI 0 = 0 := by decide
theorem nI_inj16 {a b : Nat} (ha : a < 16) (hb : b < 16) : nI a = nI b ↔ a = b := nI_eq (by omega) (by omega)
/-! a long and its sixteen men -/
theorem nib_step (a s : Nat) : a / 2 ^ s = 16 * (a / 2 ^ (s + 4)) + a / 2 ^ s % 16 := by
  have h := Nat.div_add_mod (a / 2 ^ s) 16
  rw [Nat.div_div_eq_div_mul, show 2 ^ s * 16 = 2 ^ (s + 4) by rw [Nat.pow_add]] at h
  exact h.symm
theorem nib_up (g : Int64) {k : Nat} (hk : k < 16) : uN g / 2 ^ (64 - 4 * (k + 1)) = 16 * (uN g / 2 ^ (64 - 4 * k)) + nib g k := by
  have h := nib_step (uN g) (60 - 4 * k)
  rw [show 60 - 4 * k + 4 = 64 - 4 * k by omega] at h
  rw [show 64 - 4 * (k + 1) = 60 - 4 * k by omega]
  exact h
theorem nib_top (g : Int64) : uN g / 2 ^ (64 - 4 * 0) = 0 := by
  rw [show 64 - 4 * 0 = 64 by omega]
  have := uN_lt g
  exact Nat.div_eq_of_lt (by omega)
theorem nib_ext {g h : Int64} (e : ∀ k, k < 16 → nib g k = nib h k) : g = h := by
  have key : ∀ k, k ≤ 16 → uN g / 2 ^ (64 - 4 * k) = uN h / 2 ^ (64 - 4 * k) := by
    intro k
    induction k with
    | zero => intro _; rw [nib_top, nib_top]
    | succ k ih =>
      intro hk
      rw [nib_up g (by omega), nib_up h (by omega), ih (by omega), e k (by omega)]
  have h16 := key 16 (Nat.le_refl 16)
  rw [show 64 - 4 * 16 = 0 by omega, Nat.pow_zero, Nat.div_one, Nat.div_one] at h16
  exact uN_inj h16
/-- all men are at most 12, from the low end or from the high end -/
theorem men_ok (g : Int64) : (∀ k, k < 16 → uN g / 2 ^ (4 * k) % 16 ≤ 12) ↔ ∀ k, k < 16 → nib g k ≤ 12 := by
  constructor
  · intro h k hk
    have := h (15 - k) (by omega)
    rw [show 4 * (15 - k) = 60 - 4 * k by omega] at this
    exact this
  · intro h k hk
    have := h (15 - k) (by omega)
    unfold nib at this
    rw [show 60 - 4 * (15 - k) = 4 * k by omega] at this
    exact this
/-! what the reference's loops say -/
theorem mo_sm_iff (S M : Nat → Int32) (i j : Nat) : ∀ k, mo_sm S M i j k = 0 ↔ ¬ (S i = S j ∧ ∀ q, q < k → M (64 * i + q) = M (64 * j + q))
  | 0 => by
    unfold mo_sm
    by_cases h : S i = S j
    · rw [if_pos h]; exact ⟨fun z => absurd z n1_ne, fun z => absurd ⟨h, fun q hq => absurd hq (by omega)⟩ z⟩
    · rw [if_neg h]; exact ⟨fun _ z => h z.1, fun _ => n0_eq⟩
  | k + 1 => by
    have ih := mo_sm_iff S M i j k
    unfold mo_sm
    by_cases h : mo_sm S M i j k = 0
    · rw [if_pos h]
      exact ⟨fun _ z => ih.mp h ⟨z.1, fun q hq => z.2 q (by omega)⟩, fun _ => n0_eq⟩
    · rw [if_neg h]
      have h2 : S i = S j ∧ ∀ q, q < k → M (64 * i + q) = M (64 * j + q) := Classical.byContradiction (fun z => h (ih.mpr z))
      by_cases h3 : M (64 * i + k) = M (64 * j + k)
      · rw [if_pos h3]
        refine ⟨fun z => absurd z n1_ne, fun z => absurd ⟨h2.1, fun q hq => ?_⟩ z⟩
        by_cases hqk : q = k
        · rw [hqk]; exact h3
        · exact h2.2 q (by omega)
      · rw [if_neg h3]
        exact ⟨fun _ z => h3 (z.2 k (by omega)), fun _ => n0_eq⟩
theorem mo_nx_iff (S M N : Nat → Int32) (i : Nat) (st : Int32) : ∀ k, mo_nx S M N i st k = 0 ↔ ¬ (S i = st ∧ ∀ q, q < k → M (64 * i + q) = N q)
  | 0 => by
    unfold mo_nx
    by_cases h : S i = st
    · rw [if_pos h]; exact ⟨fun z => absurd z n1_ne, fun z => absurd ⟨h, fun q hq => absurd hq (by omega)⟩ z⟩
    · rw [if_neg h]; exact ⟨fun _ z => h z.1, fun _ => n0_eq⟩
  | k + 1 => by
    have ih := mo_nx_iff S M N i st k
    unfold mo_nx
    by_cases h : mo_nx S M N i st k = 0
    · rw [if_pos h]
      exact ⟨fun _ z => ih.mp h ⟨z.1, fun q hq => z.2 q (by omega)⟩, fun _ => n0_eq⟩
    · rw [if_neg h]
      have h2 : S i = st ∧ ∀ q, q < k → M (64 * i + q) = N q := Classical.byContradiction (fun z => h (ih.mpr z))
      by_cases h3 : M (64 * i + k) = N k
      · rw [if_pos h3]
        refine ⟨fun z => absurd z n1_ne, fun z => absurd ⟨h2.1, fun q hq => ?_⟩ z⟩
        by_cases hqk : q = k
        · rw [hqk]; exact h3
        · exact h2.2 q (by omega)
      · rw [if_neg h3]
        exact ⟨fun _ z => h3 (z.2 k (by omega)), fun _ => n0_eq⟩
/-- position j is the one that is given, with the state st -/
def Pos (S M N : Nat → Int32) (st : Int32) (j : Nat) : Prop := S j = st ∧ ∀ q, q < 64 → M (64 * j + q) = N q
theorem ga_has_iff (G T : Nat → Int64) (a : Nat) : ga_has G T a = 0 ↔ ¬ ∀ p, p < 4 → T (a * 4 + p) = G p := by
  unfold ga_has
  by_cases h : ∀ p, p < 4 → T (a * 4 + p) = G p
  · rw [if_pos h]; exact ⟨fun z => absurd z n1_ne, fun z => absurd h z⟩
  · rw [if_neg h]; exact ⟨fun _ => h, fun _ => n0_eq⟩
/-! the tie -/
def Rel (G T : Nat → Int64) (F : Nat → Int32) (n : Nat) (N M S C V : Nat → Int32) : Prop :=
  n ≤ 640 ∧ (∀ k, k < 64 → N k = nI (sqm G k)) ∧ (∀ i, i < n → ∀ k, k < 64 → M (64 * i + k) = nI (nib (T (i * 4 + k / 16)) (k % 16))) ∧
  (∀ i, i < n → F (i * 8 + 1) = C i ∧ F (i * 8 + 2) = V i ∧ F (i * 8 + 5) = S i ∧ F (i * 8 + 0) = nI (mo_cnt S M i (i + 1)) ∧ F (i * 8 + 3) = nI (mo_fi S M i i) ∧ F (i * 8 + 4) = mo_be S M i i ∧ F (i * 8 + 6) = (if mo_dead M i = 0 then nI 0 else nI 1) ∧ F (i * 8 + 7) = nI (64 - mo_hm M i (nI 0) 64))
theorem Rel.less {G T : Nat → Int64} {F : Nat → Int32} {n k : Nat} {N M S C V : Nat → Int32} (h : Rel G T F n N M S C V) (hk : k ≤ n) : Rel G T F k N M S C V := by
  obtain ⟨h1, h2, h3, h4⟩ := h
  exact ⟨by omega, h2, fun i hi => h3 i (by omega), fun i hi => h4 i (by omega)⟩
theorem Rel.new : Rel (fun _ => 0) (fun _ => 0) (fun _ => 0) 0 (fun _ => 0) (fun _ => 0) (fun _ => 0) (fun _ => 0) (fun _ => 0) := by
  refine ⟨by omega, fun k hk => ?_, fun i hi => absurd hi (by omega), fun i hi => absurd hi (by omega)⟩
  have : sqm (fun _ => 0) k = 0 := by
    unfold sqm nib
    rw [show uN 0 = 0 from rfl, Nat.zero_div, Nat.zero_mod]
  rw [this, n0_eq]
/-- a told position's squares are those given: by the longs, by the men -/
theorem rows_iff {G T : Nat → Int64} {N M : Nat → Int32} {i : Nat} (hN : ∀ k, k < 64 → N k = nI (sqm G k)) (hM : ∀ k, k < 64 → M (64 * i + k) = nI (nib (T (i * 4 + k / 16)) (k % 16))) : (∀ p, p < 4 → T (i * 4 + p) = G p) ↔ ∀ q, q < 64 → M (64 * i + q) = N q := by
  constructor
  · intro h q hq
    rw [hM q hq, hN q hq, h (q / 16) (by omega)]
    rfl
  · intro h p hp
    apply nib_ext
    intro k hk
    have h1 := h (16 * p + k) (by omega)
    rw [hM _ (by omega), hN _ (by omega)] at h1
    have h2 := (nI_inj16 (nib_lt _ _) (nib_lt _ _)).mp h1
    rw [show (16 * p + k) / 16 = p by omega, show (16 * p + k) % 16 = k by omega] at h2
    exact h2
theorem Rel.pos {G T : Nat → Int64} {F : Nat → Int32} {n : Nat} {N M S C V : Nat → Int32} (h : Rel G T F n N M S C V) (st : Int32) {j : Nat} (hj : j < n) : (F (j * 8 + 5) = st ∧ ¬ ga_has G T j = 0) ↔ Pos S M N st j := by
  obtain ⟨h1, h2, h3, h4⟩ := h
  obtain ⟨-, -, e5, -⟩ := h4 j hj
  rw [e5, ga_has_iff]
  unfold Pos
  rw [← rows_iff h2 (h3 j hj)]
  constructor
  · intro z; exact ⟨z.1, Classical.byContradiction z.2⟩
  · intro z; exact ⟨z.1, fun w => w z.2⟩
/-- the last told position that is the given one -/
theorem Rel.last {G T : Nat → Int64} {F : Nat → Int32} {n : Nat} {N M S C V : Nat → Int32} (h : Rel G T F n N M S C V) (st : Int32) : ∀ k, k ≤ n → (ga_last G T F st k = -1 ∧ ∀ j, j < k → ¬ Pos S M N st j) ∨ ∃ a, a < k ∧ ga_last G T F st k = nI a ∧ Pos S M N st a ∧ ∀ j, a < j → j < k → ¬ Pos S M N st j
  | 0, _ => Or.inl ⟨rfl, fun j hj => absurd hj (by omega)⟩
  | k + 1, hk => by
    have ih := Rel.last h st k (by omega)
    have hp := h.pos st (j := k) (by omega)
    have down : (¬ Pos S M N st k) → ga_last G T F st (k + 1) = ga_last G T F st k → (ga_last G T F st (k + 1) = -1 ∧ ∀ j, j < k + 1 → ¬ Pos S M N st j) ∨ ∃ a, a < k + 1 ∧ ga_last G T F st (k + 1) = nI a ∧ Pos S M N st a ∧ ∀ j, a < j → j < k + 1 → ¬ Pos S M N st j := by
      intro hn e
      rw [e]
      rcases ih with ⟨e1, h1⟩ | ⟨a, ha, e1, hpa, h1⟩
      · exact Or.inl ⟨e1, fun j hj => by
          by_cases hjk : j = k
          · rw [hjk]; exact hn
          · exact h1 j (by omega)⟩
      · exact Or.inr ⟨a, by omega, e1, hpa, fun j h2 h3 => by
          by_cases hjk : j = k
          · rw [hjk]; exact hn
          · exact h1 j h2 (by omega)⟩
    by_cases c1 : F (k * 8 + 5) = st
    · by_cases c2 : ga_has G T k = 0
      · exact down (fun z => (hp.mpr z).2 c2) (by rw [ga_last, if_pos c1, if_pos c2])
      · exact Or.inr ⟨k, by omega, by rw [ga_last, if_pos c1, if_neg c2], hp.mp ⟨c1, c2⟩, fun j h2 h3 => absurd h3 (by omega)⟩
    · exact down (fun z => c1 (hp.mpr z).1) (by rw [ga_last, if_neg c1])
theorem mo_tm_none {S M N : Nat → Int32} {st : Int32} : ∀ k, (∀ j, j < k → ¬ Pos S M N st j) → mo_tm S M N st k = 0
  | 0, _ => rfl
  | k + 1, h => by
    rw [mo_tm, mo_tm_none k (fun j hj => h j (by omega)), if_pos ((mo_nx_iff S M N k st 64).mpr (h k (by omega)))]
theorem mo_tm_up {S M N : Nat → Int32} {st : Int32} {a : Nat} : ∀ d, (∀ j, a < j → j < a + 1 + d → ¬ Pos S M N st j) → mo_tm S M N st (a + 1 + d) = mo_tm S M N st (a + 1)
  | 0, _ => rfl
  | d + 1, h => by
    rw [show a + 1 + (d + 1) = (a + 1 + d) + 1 by omega, mo_tm, mo_tm_up d (fun j h1 h2 => h j h1 (by omega)), if_pos ((mo_nx_iff S M N (a + 1 + d) st 64).mpr (h _ (by omega) (by omega))), Nat.add_zero]
/-- where a is the given position, as many are the same as a as are the given one -/
theorem mo_cnt_tm {S M N : Nat → Int32} {st : Int32} {a : Nat} (ha : Pos S M N st a) : ∀ k, mo_cnt S M a k = mo_tm S M N st k
  | 0 => rfl
  | k + 1 => by
    rw [mo_cnt, mo_tm, mo_cnt_tm ha k]
    have e : mo_sm S M a k 64 = 0 ↔ mo_nx S M N k st 64 = 0 := by
      rw [mo_sm_iff, mo_nx_iff, ha.1]
      constructor
      · intro z w; exact z ⟨w.1.symm, fun q hq => by rw [ha.2 q hq, w.2 q hq]⟩
      · intro z w; exact z ⟨w.1.symm, fun q hq => by rw [← w.2 q hq, ha.2 q hq]⟩
    by_cases c1 : mo_nx S M N k st 64 = 0
    · rw [if_pos c1, if_pos (e.mpr c1)]
    · rw [if_neg c1, if_neg (fun z => c1 (e.mp z))]
theorem ga_isPos_in {n a : Nat} (hn : n ≤ 640) (ha : a < n) : ¬ ga_isPos n (nI a) = 0 := by
  rw [ga_isPos, if_neg (nI_pos (by omega)), if_neg (nI_ge ha (by omega))]
  exact n1_ne
theorem Rel.count {G T : Nat → Int64} {F : Nat → Int32} {n : Nat} {N M S C V : Nat → Int32} (h : Rel G T F n N M S C V) (st : Int32) : ga_cup F n (ga_last G T F st n) = nI (mo_tm S M N st n) := by
  rcases h.last st n (Nat.le_refl n) with ⟨e, hno⟩ | ⟨a, ha, e, hp, hno⟩
  · rw [e, ga_cup, if_pos (by rw [ga_isPos, if_pos (by decide)]; exact n0_eq), mo_tm_none n hno]
  · have hn := h.1
    obtain ⟨-, -, -, e0, -⟩ := h.2.2.2 a ha
    rw [e, ga_cup, if_neg (ga_isPos_in hn ha), nI_clamp (by omega), e0, mo_cnt_tm hp (a + 1)]
    obtain ⟨d, hd⟩ : ∃ d, n = a + 1 + d := ⟨n - (a + 1), by omega⟩
    rw [hd, mo_tm_up d (fun j h1 h2 => hno j h1 (by omega))]
end
section
/-! a position is appended: the reference's tables behind it -/
theorem upd_s {f : Nat → Int32} {k : Nat} {x : Int32} : upd f k x k = x := pk_us
theorem upd_n {f : Nat → Int32} {k j : Nat} {x : Int32} (h : j ≠ k) : upd f k x j = f j := pk_un h
theorem adM_new (M N : Nat → Int32) (n : Nat) {q : Nat} (hq : q < 64) : mo_adM M N n 64 (64 * n + q) = N q := by
  unfold mo_adM
  rw [if_pos (by omega), show 64 * n + q - 64 * n = q by omega]
theorem adM_old (M N : Nat → Int32) {n i : Nat} (hi : i < n) {q : Nat} (hq : q < 64) : mo_adM M N n 64 (64 * i + q) = M (64 * i + q) := by
  unfold mo_adM
  rw [if_neg (by omega)]
/-- the reference's words at i, over tables that agree on the positions up to i -/
theorem sm_congr {S S' M M' : Nat → Int32} {i j : Nat} (h1 : S' i = S i) (h2 : S' j = S j) (h3 : ∀ q, q < 64 → M' (64 * i + q) = M (64 * i + q)) (h4 : ∀ q, q < 64 → M' (64 * j + q) = M (64 * j + q)) : ∀ k, k ≤ 64 → mo_sm S' M' i j k = mo_sm S M i j k
  | 0, _ => by unfold mo_sm; rw [h1, h2]
  | k + 1, hk => by unfold mo_sm; rw [sm_congr h1 h2 h3 h4 k (by omega), h3 k (by omega), h4 k (by omega)]
theorem cnt_congr {S S' M M' : Nat → Int32} {i : Nat} : ∀ k, (∀ j, j < k → mo_sm S' M' i j 64 = mo_sm S M i j 64) → mo_cnt S' M' i k = mo_cnt S M i k
  | 0, _ => rfl
  | k + 1, h => by rw [mo_cnt, mo_cnt, cnt_congr k (fun j hj => h j (by omega)), h k (by omega)]
theorem fi_congr {S S' M M' : Nat → Int32} {i : Nat} : ∀ k, (∀ j, j < k → mo_sm S' M' i j 64 = mo_sm S M i j 64) → mo_fi S' M' i k = mo_fi S M i k
  | 0, _ => rfl
  | k + 1, h => by rw [mo_fi, mo_fi, fi_congr k (fun j hj => h j (by omega)), h k (by omega)]
theorem be_congr {S S' M M' : Nat → Int32} {i : Nat} : ∀ k, (∀ j, j < k → mo_sm S' M' i j 64 = mo_sm S M i j 64) → mo_be S' M' i k = mo_be S M i k
  | 0, _ => rfl
  | k + 1, h => by rw [mo_be, mo_be, be_congr k (fun j hj => h j (by omega)), h k (by omega)]
theorem hm_congr {M M' : Nat → Int32} {i : Nat} (man : Int32) : ∀ k, (∀ q, q < k → M' (64 * i + q) = M (64 * i + q)) → mo_hm M' i man k = mo_hm M i man k
  | 0, _ => rfl
  | k + 1, h => by rw [mo_hm, mo_hm, hm_congr man k (fun j hj => h j (by omega)), h k (by omega)]
theorem co_congr {M M' : Nat → Int32} {i : Nat} (man : Int32) : ∀ k, (∀ q, q < k → M' (64 * i + q) = M (64 * i + q)) → mo_co M' i man k = mo_co M i man k
  | 0, _ => rfl
  | k + 1, h => by rw [mo_co, mo_co, co_congr man k (fun j hj => h j (by omega)), h k (by omega)]
theorem dead_congr {M M' : Nat → Int32} {i : Nat} (h : ∀ q, q < 64 → M' (64 * i + q) = M (64 * i + q)) : mo_dead M' i = mo_dead M i := by
  unfold mo_dead
  simp only [hm_congr (M := M) (M' := M') (i := i) _ 64 h, co_congr (M := M) (M' := M') (i := i) _ 64 h]
/-! the new position, against those before it -/
section APP
variable {S M N : Nat → Int32} {n : Nat} {st : Int32}
theorem sm_new {j : Nat} (hj : j < n) : mo_sm (upd S n st) (mo_adM M N n 64) n j 64 = 0 ↔ ¬ Pos S M N st j := by
  rw [mo_sm_iff, upd_s, upd_n (show j ≠ n by omega)]
  unfold Pos
  constructor
  · intro z w; exact z ⟨w.1.symm, fun q hq => by rw [adM_new M N n hq, adM_old M N hj hq, w.2 q hq]⟩
  · intro z w; exact z ⟨w.1.symm, fun q hq => by rw [← adM_old M N hj hq, ← w.2 q hq, adM_new M N n hq]⟩
theorem sm_self : ¬ mo_sm (upd S n st) (mo_adM M N n 64) n n 64 = 0 := fun z => (mo_sm_iff _ _ _ _ _).mp z ⟨rfl, fun _ _ => rfl⟩
theorem cnt_new : ∀ k, k ≤ n → mo_cnt (upd S n st) (mo_adM M N n 64) n k = mo_tm S M N st k
  | 0, _ => rfl
  | k + 1, hk => by
    rw [mo_cnt, mo_tm, cnt_new k (by omega)]
    by_cases c1 : mo_nx S M N k st 64 = 0
    · rw [if_pos c1, if_pos ((sm_new (by omega)).mpr ((mo_nx_iff S M N k st 64).mp c1))]
    · rw [if_neg c1, if_neg (fun z => c1 ((mo_nx_iff S M N k st 64).mpr ((sm_new (by omega)).mp z)))]
theorem cnt_new1 : mo_cnt (upd S n st) (mo_adM M N n 64) n (n + 1) = mo_tm S M N st n + 1 := by
  rw [mo_cnt, cnt_new n (Nat.le_refl n), if_neg sm_self]
/-- the least of the positions that are the given one -/
theorem fi_spec {S M : Nat → Int32} {i : Nat} {P : Nat → Prop} : ∀ k, k ≤ i → (∀ j, j < k → (mo_sm S M i j 64 = 0 ↔ ¬ P j)) → (mo_fi S M i k = i ∧ ∀ j, j < k → ¬ P j) ∨ (mo_fi S M i k < k ∧ P (mo_fi S M i k) ∧ ∀ j, j < mo_fi S M i k → ¬ P j)
  | 0, _, _ => Or.inl ⟨rfl, fun j hj => absurd hj (by omega)⟩
  | k + 1, hk, h => by
    have ih := fi_spec k (by omega) (fun j hj => h j (by omega))
    by_cases c1 : mo_sm S M i k 64 = 0
    · have hnk := (h k (by omega)).mp c1
      rw [mo_fi, if_pos c1]
      rcases ih with ⟨e, z⟩ | ⟨e, z1, z2⟩
      · exact Or.inl ⟨e, fun j hj => by
          by_cases hjk : j = k
          · rw [hjk]; exact hnk
          · exact z j (by omega)⟩
      · exact Or.inr ⟨by omega, z1, z2⟩
    · have hpk : P k := Classical.byContradiction (fun z => c1 ((h k (by omega)).mpr z))
      rw [mo_fi, if_neg c1]
      rcases ih with ⟨e, z⟩ | ⟨e, z1, z2⟩
      · rw [e, if_neg (by omega)]
        exact Or.inr ⟨by omega, hpk, z⟩
      · rw [if_pos (by omega)]
        exact Or.inr ⟨by omega, z1, z2⟩
end APP
theorem Rel.be_new {G T : Nat → Int64} {F : Nat → Int32} {n : Nat} {N M S C V : Nat → Int32} (h : Rel G T F n N M S C V) (st : Int32) : ∀ k, k ≤ n → mo_be (upd S n st) (mo_adM M N n 64) n k = ga_last G T F st k
  | 0, _ => rfl
  | k + 1, hk => by
    have ih := Rel.be_new h st k (by omega)
    have hp := h.pos st (j := k) (by omega)
    have hs := sm_new (S := S) (M := M) (N := N) (n := n) (st := st) (j := k) (by omega)
    rw [mo_be, ih]
    by_cases c1 : F (k * 8 + 5) = st
    · by_cases c2 : ga_has G T k = 0
      · rw [ga_last, if_pos c1, if_pos c2, if_pos (hs.mpr (fun z => (hp.mpr z).2 c2))]
      · rw [ga_last, if_pos c1, if_neg c2, if_neg (fun z => hs.mp z (hp.mp ⟨c1, c2⟩))]
    · rw [ga_last, if_neg c1, if_pos (hs.mpr (fun z => c1 (hp.mpr z).1))]
theorem Rel.fi_new {G T : Nat → Int64} {F : Nat → Int32} {n : Nat} {N M S C V : Nat → Int32} (h : Rel G T F n N M S C V) (st mv ck cl : Int32) : ap_fi G T F n st mv ck cl = nI (mo_fi (upd S n st) (mo_adM M N n 64) n n) := by
  have hn := h.1
  have new := fi_spec (S := upd S n st) (M := mo_adM M N n 64) (i := n) (P := Pos S M N st) n (Nat.le_refl n) (fun j hj => sm_new hj)
  unfold ap_fi ap_be
  rcases h.last st n (Nat.le_refl n) with ⟨e, hno⟩ | ⟨a, ha, e, hp, hno⟩
  · rw [if_pos e]
    rcases new with ⟨e2, -⟩ | ⟨e2, z1, -⟩
    · rw [e2]
    · exact absurd z1 (hno _ e2)
  · rw [e, if_neg (by
      intro z
      have := congrArg Int32.toInt z
      rw [nI_toInt (by omega)] at this
      have h1 : (-1 : Int32).toInt = -1 := by decide
      omega), nI_clamp (by omega)]
    have e3 : ap_F3 G T F n st mv ck cl (a * 8 + 3) = F (a * 8 + 3) := by
      unfold ap_F3
      rw [upd_n (by omega), upd_n (by omega), upd_n (by omega)]
    obtain ⟨-, -, -, -, e4, -⟩ := h.2.2.2 a ha
    rw [e3, e4]
    congr 1
    have old := fi_spec (S := S) (M := M) (i := a) (P := Pos S M N st) a (Nat.le_refl a) (fun j hj => by
      rw [mo_sm_iff, hp.1]
      unfold Pos
      constructor
      · intro z w; exact z ⟨w.1.symm, fun q hq => by rw [hp.2 q hq, w.2 q hq]⟩
      · intro z w; exact z ⟨w.1.symm, fun q hq => by rw [← w.2 q hq, hp.2 q hq]⟩)
    rcases new with ⟨-, z⟩ | ⟨e2, z1, z2⟩
    · exact absurd hp (z a ha)
    · rcases old with ⟨e5, w⟩ | ⟨e5, w1, w2⟩
      · rw [e5]
        rcases Nat.lt_trichotomy a (mo_fi (upd S n st) (mo_adM M N n 64) n n) with q | q | q
        · exact absurd hp (z2 a q)
        · exact q
        · exact absurd z1 (w _ q)
      · rcases Nat.lt_trichotomy (mo_fi S M a a) (mo_fi (upd S n st) (mo_adM M N n 64) n n) with q | q | q
        · exact absurd w1 (z2 _ q)
        · exact q
        · exact absurd z1 (w2 _ q)
/-! men counted: on the given squares, and on the position told -/
theorem cnt_hm {G : Nat → Int64} {M : Nat → Int32} {i : Nat} (man : Int32) : ∀ k, (∀ q, q < k → M (64 * i + q) = nI (sqm G q)) → ga_cnt G man k = mo_hm M i man k
  | 0, _ => rfl
  | k + 1, h => by rw [ga_cnt, mo_hm, cnt_hm man k (fun q hq => h q (by omega)), h k (by omega)]
theorem hm_three {M : Nat → Int32} {i : Nat} : ∀ k, mo_hm M i (nI 0) k + mo_hm M i (nI 6) k + mo_hm M i (nI 12) k ≤ k
  | 0 => by unfold mo_hm; omega
  | k + 1 => by
    have ih := hm_three (M := M) (i := i) k
    unfold mo_hm
    by_cases c0 : M (64 * i + k) = nI 0
    · have c6 : ¬ M (64 * i + k) = nI 6 := by rw [c0]; decide
      have c12 : ¬ M (64 * i + k) = nI 12 := by rw [c0]; decide
      rw [if_pos c0, if_neg c6, if_neg c12]; omega
    · rw [if_neg c0]
      by_cases c6 : M (64 * i + k) = nI 6
      · have c12 : ¬ M (64 * i + k) = nI 12 := by rw [c6]; decide
        rw [if_pos c6, if_neg c12]; omega
      · rw [if_neg c6]
        by_cases c12 : M (64 * i + k) = nI 12
        · rw [if_pos c12]; omega
        · rw [if_neg c12]; omega
theorem cnt_zero {G : Nat → Int64} {man : Int32} : ∀ k, ga_cnt G man k = 0 → ∀ q, q < k → ¬ nI (sqm G q) = man
  | 0, _ => fun q hq => absurd hq (by omega)
  | k + 1, h => by
    unfold ga_cnt at h
    intro q hq
    by_cases c : nI (sqm G k) = man
    · rw [if_pos c] at h; omega
    · rw [if_neg c] at h
      by_cases hqk : q = k
      · rw [hqk]; exact c
      · exact cnt_zero k (by omega) q (by omega)
theorem cnt_one {G : Nat → Int64} {man : Int32} : ∀ k, ga_cnt G man k = 1 → ∃ u, u < k ∧ nI (sqm G u) = man ∧ ∀ q, q < k → q ≠ u → ¬ nI (sqm G q) = man
  | 0, h => by unfold ga_cnt at h; omega
  | k + 1, h => by
    unfold ga_cnt at h
    by_cases c : nI (sqm G k) = man
    · rw [if_pos c] at h
      exact ⟨k, by omega, c, fun q h1 h2 => cnt_zero k (by omega) q (by omega)⟩
    · rw [if_neg c] at h
      obtain ⟨u, h1, h2, h3⟩ := cnt_one k (by omega)
      exact ⟨u, by omega, h2, fun q g1 g2 => by
        by_cases hqk : q = k
        · rw [hqk]; exact c
        · exact h3 q (by omega) g2⟩
theorem first_at {G : Nat → Int64} {man : Int32} {u : Nat} (hu : u < 64) (h2 : nI (sqm G u) = man) (h3 : ∀ q, q < 64 → q ≠ u → ¬ nI (sqm G q) = man) : ∀ k, k ≤ 64 → 64 - k ≤ u → ga_first G man k = nI u
  | 0, _, h => absurd h (by omega)
  | k + 1, hk, h => by
    rw [ga_first]
    by_cases e : 63 - k = u
    · rw [e, if_pos h2]
    · rw [if_neg (h3 (63 - k) (by omega) e)]
      exact first_at hu h2 h3 k (by omega) (by omega)
theorem co_at {G : Nat → Int64} {M : Nat → Int32} {i : Nat} {man : Int32} {u : Nat} (hu : u < 64) (hM : ∀ q, q < 64 → M (64 * i + q) = nI (sqm G q)) (h2 : nI (sqm G u) = man) (h3 : ∀ q, q < 64 → q ≠ u → ¬ nI (sqm G q) = man) : ∀ k, k ≤ 64 → u < k → mo_co M i man k = (u % 8 + u / 8) % 2
  | 0, _, h => absurd h (by omega)
  | k + 1, hk, h => by
    rw [mo_co, hM k (by omega)]
    by_cases e : k = u
    · rw [e, if_pos h2]
    · rw [if_neg (h3 k (by omega) e)]
      exact co_at hu hM h2 h3 k (by omega) (by omega)
theorem ga_col_n {u : Nat} (hu : u < 64) : ga_col (nI u) = nI ((u % 8 + u / 8) % 2) := by
  unfold ga_col
  rw [pk_andN (by omega) (m := nI 7) 3 (by decide), pk_shrN (by omega) (nI 3 &&& 31) 3 (by decide), nI_add, pk_andN (by omega) (m := nI 1) 1 (by decide)]
theorem col_eq {G : Nat → Int64} {M : Nat → Int32} {i : Nat} (hM : ∀ q, q < 64 → M (64 * i + q) = nI (sqm G q)) {m1 m2 : Int32} (h1 : ga_cnt G m1 64 = 1) (h2 : ga_cnt G m2 64 = 1) : ga_col (ga_first G m1 64) = ga_col (ga_first G m2 64) ↔ mo_co M i m1 64 = mo_co M i m2 64 := by
  obtain ⟨u, a1, a2, a3⟩ := cnt_one 64 h1
  obtain ⟨w, b1, b2, b3⟩ := cnt_one 64 h2
  rw [first_at a1 a2 a3 64 (by omega) (by omega), first_at b1 b2 b3 64 (by omega) (by omega), co_at a1 hM a2 a3 64 (by omega) (by omega), co_at b1 hM b2 b3 64 (by omega) (by omega), ga_col_n a1, ga_col_n b1]
  exact nI_eq (by omega) (by omega)
theorem dead_eq {G : Nat → Int64} {M : Nat → Int32} {i : Nat} (hM : ∀ q, q < 64 → M (64 * i + q) = nI (sqm G q)) : ga_dead G (nI (ap_mn G)) = mo_dead M i := by
  have e : ∀ man, ga_cnt G man 64 = mo_hm M i man 64 := fun man => cnt_hm man 64 hM
  have h3 := hm_three (M := M) (i := i) 64
  have hmn : ap_mn G = 64 - mo_hm M i (nI 0) 64 := by unfold ap_mn; rw [e]
  unfold ga_dead mo_dead
  rw [hmn]
  by_cases c6 : mo_hm M i (nI 6) 64 = 1
  · rw [e (nI 6), if_pos c6, if_pos c6]
    by_cases c12 : mo_hm M i (nI 12) 64 = 1
    · rw [e (nI 12), if_pos c12, if_pos c12]
      generalize hz : 64 - mo_hm M i (nI 0) 64 = z
      have hz2 : 2 ≤ z := by omega
      have hz64 : z ≤ 64 := by omega
      by_cases z2 : z = 2
      · rw [if_pos (by rw [z2]), if_neg (by omega), if_pos z2]
      · rw [if_neg (fun w => z2 ((nI_eq (by omega) (by omega)).mp w))]
        by_cases z3 : z = 3
        · rw [if_pos (by rw [z3]), if_neg (show ¬ 4 ≤ z by omega), if_neg z2, e (nI 3), e (nI 9), e (nI 2), e (nI 8)]
          by_cases q : mo_hm M i (nI 3) 64 + mo_hm M i (nI 9) 64 + mo_hm M i (nI 2) 64 + mo_hm M i (nI 8) 64 = 1
          · rw [if_pos q, if_pos (by omega)]
          · rw [if_neg q, if_neg (by omega)]
        · rw [if_neg (fun w => z3 ((nI_eq (by omega) (by omega)).mp w)), if_pos (show 4 ≤ z by omega)]
          by_cases z4 : z = 4
          · rw [if_pos (by rw [z4]), if_pos z4]
            by_cases c3 : mo_hm M i (nI 3) 64 = 1
            · by_cases c9 : mo_hm M i (nI 9) 64 = 1
              · rw [e (nI 3), e (nI 9), if_pos c3, if_pos c3, if_pos c9, if_pos c9]
                have hc := col_eq hM (m1 := nI 3) (m2 := nI 9) (by rw [e]; exact c3) (by rw [e]; exact c9)
                by_cases q : mo_co M i (nI 3) 64 = mo_co M i (nI 9) 64
                · rw [if_pos q, if_pos (hc.mpr q)]
                · rw [if_neg q, if_neg (fun w => q (hc.mp w))]
              · rw [e (nI 3), e (nI 9), if_pos c3, if_pos c3, if_neg c9, if_neg c9]
            · rw [e (nI 3), if_neg c3, if_neg c3]
          · rw [if_neg (fun w => z4 ((nI_eq (by omega) (by omega)).mp w)), if_neg z4]
    · rw [e (nI 12), if_neg c12, if_neg c12]
  · rw [e (nI 6), if_neg c6, if_neg c6]
end
section
/-! rows wb_, u_tn, g_or are pasted from the starting text BITS.to-paste -/
theorem wb_tb (n : Nat) : (lN n).toBitVec = BitVec.ofNat 64 n := rfl
theorem wb_inj {a b : Int64} (h : a.toBitVec = b.toBitVec) : a = b := Int64.toBitVec_inj.mp h
theorem wb_c : ∀ k, k < 64 → ((nI k).toInt64 &&& 63) = lN k := by decide +kernel
theorem wb_sm : ∀ k, k < 64 → (BitVec.ofNat 64 k).smod 64 = BitVec.ofNat 64 k := by decide +kernel
theorem wb_shl (n : Nat) {k : Nat} (hk : k < 64) : lN n <<< ((nI k).toInt64 &&& 63) = lN (n * 2 ^ k) := by
  rw [wb_c k hk]
  apply wb_inj
  rw [Int64.toBitVec_shiftLeft, wb_tb, wb_tb, wb_tb, wb_sm k hk]
  apply BitVec.eq_of_toNat_eq
  rw [BitVec.shiftLeft_eq', BitVec.toNat_shiftLeft, BitVec.toNat_ofNat, BitVec.toNat_ofNat, BitVec.toNat_ofNat, Nat.mod_eq_of_lt (show k < 2 ^ 64 by omega), Nat.shiftLeft_eq, Nat.mul_mod, Nat.mod_mod, ← Nat.mul_mod]
theorem u_tn {n : Nat} (h : n < 2 ^ 64) : (UInt64.ofNat n).toNat = n := Nat.mod_eq_of_lt h
theorem g_or {k p a b : Nat} (hp : 2 ^ k = p) (ha : a < p) (h : b * p + a < 2 ^ 64) : lN (b * p) ||| lN a = lN (b * p + a) := by
  subst hp
  have h1 : b * 2 ^ k ||| a = b * 2 ^ k + a := by rw [← Nat.shiftLeft_eq, Nat.shiftLeft_add_eq_or_of_lt ha]
  have h3 : UInt64.ofNat (b * 2 ^ k) ||| UInt64.ofNat a = UInt64.ofNat (b * 2 ^ k + a) := UInt64.toNat_inj.mp (by rw [UInt64.toNat_or, u_tn (by omega), u_tn (by omega), u_tn h, h1])
  have h2 := congrArg UInt64.toInt64 h3
  exact h2
/-! THE STEPS OF THE TIE, A CALL EACH -/
theorem ap_F_old {G T : Nat → Int64} {F : Nat → Int32} {n : Nat} {st mv ck cl : Int32} {j : Nat} (hj : j < n * 8) : ap_F G T F n st mv ck cl j = F j := by
  unfold ap_F ap_F3
  rw [upd_n (by omega), upd_n (by omega), upd_n (by omega), upd_n (by omega), upd_n (by omega), upd_n (by omega), upd_n (by omega), upd_n (by omega)]
section NEW
variable (G T : Nat → Int64) (F : Nat → Int32) (n : Nat) (st mv ck cl : Int32)
theorem ap_F_0 : ap_F G T F n st mv ck cl (n * 8 + 0) = ap_ct G T F n st := by
  unfold ap_F ap_F3
  rw [upd_n (by omega), upd_n (by omega), upd_n (by omega), upd_n (by omega), upd_n (by omega), upd_n (by omega), upd_n (by omega), upd_s]
theorem ap_F_1 : ap_F G T F n st mv ck cl (n * 8 + 1) = cl := by
  unfold ap_F ap_F3
  rw [upd_n (by omega), upd_n (by omega), upd_n (by omega), upd_n (by omega), upd_n (by omega), upd_n (by omega), upd_s]
theorem ap_F_2 : ap_F G T F n st mv ck cl (n * 8 + 2) = ap_vd G T F n st mv ck cl := by
  unfold ap_F ap_F3
  rw [upd_n (by omega), upd_n (by omega), upd_n (by omega), upd_n (by omega), upd_n (by omega), upd_s]
theorem ap_F_3 : ap_F G T F n st mv ck cl (n * 8 + 3) = ap_fi G T F n st mv ck cl := by
  unfold ap_F
  rw [upd_n (by omega), upd_n (by omega), upd_n (by omega), upd_n (by omega), upd_s]
theorem ap_F_4 : ap_F G T F n st mv ck cl (n * 8 + 4) = ap_be G T F n st := by
  unfold ap_F
  rw [upd_n (by omega), upd_n (by omega), upd_n (by omega), upd_s]
theorem ap_F_5 : ap_F G T F n st mv ck cl (n * 8 + 5) = st := by
  unfold ap_F
  rw [upd_n (by omega), upd_n (by omega), upd_s]
theorem ap_F_6 : ap_F G T F n st mv ck cl (n * 8 + 6) = if ga_dead G (nI (ap_mn G)) = 0 then nI 0 else nI 1 := by
  unfold ap_F
  rw [upd_n (by omega), upd_s]
theorem ap_F_7 : ap_F G T F n st mv ck cl (n * 8 + 7) = nI (ap_mn G) := by
  unfold ap_F
  rw [upd_s]
end NEW
theorem Rel.app {G T : Nat → Int64} {F : Nat → Int32} {n : Nat} {N M S C V : Nat → Int32} (h : Rel G T F n N M S C V) (hn : n < 640) (st mv ck cl : Int32) :
    ap_vd G T F n st mv ck cl = mo_ver (upd S n st) (mo_adM M N n 64) (upd C n cl) n mv ck ∧
    Rel G (ap_T G T n) (ap_F G T F n st mv ck cl) (n + 1) N (mo_adM M N n 64) (upd S n st) (upd C n cl) (upd V n (mo_ver (upd S n st) (mo_adM M N n 64) (upd C n cl) n mv ck)) := by
  have hM : ∀ q, q < 64 → mo_adM M N n 64 (64 * n + q) = nI (sqm G q) := fun q hq => by rw [adM_new M N n hq]; exact h.2.1 q hq
  have hct : ap_ct G T F n st = nI (mo_cnt (upd S n st) (mo_adM M N n 64) n (n + 1)) := by
    unfold ap_ct ap_be
    rw [h.count st, nI_add, cnt_new1]
  have hdd : ga_dead G (nI (ap_mn G)) = mo_dead (mo_adM M N n 64) n := dead_eq hM
  have hvd : ap_vd G T F n st mv ck cl = mo_ver (upd S n st) (mo_adM M N n 64) (upd C n cl) n mv ck := by
    have hle := mo_cnt_le (upd S n st) (mo_adM M N n 64) n (n + 1)
    unfold ap_vd ga_judge mo_ver
    rw [hct, hdd, upd_s]
    generalize mo_cnt (upd S n st) (mo_adM M N n 64) n (n + 1) = k at hle
    by_cases h5 : k < 5
    · rw [if_pos (nI_lt h5 (by omega)), if_pos h5]
      by_cases h3 : k < 3
      · rw [if_pos (nI_lt h3 (by omega)), if_pos h3]
      · rw [if_neg (nI_nlt (show 3 ≤ k by omega) (by omega)), if_neg h3]
    · rw [if_neg (nI_nlt (show 5 ≤ k by omega) (by omega)), if_neg h5]
  refine ⟨hvd, by omega, h.2.1, fun i hi k hk => ?_, fun i hi => ?_⟩
  · by_cases e : i = n
    · rw [e, hM k hk]
      unfold ap_T
      rw [pk_cpy_in (by omega) (by omega), show 0 + (n * 4 + k / 16 - n * 4) = k / 16 by omega]
      rfl
    · rw [adM_old M N (by omega) hk, h.2.2.1 i (by omega) k hk]
      unfold ap_T
      rw [pk_cpy_out (by omega)]
  · by_cases e : i = n
    · rw [e]
      refine ⟨?_, ?_, ?_, ?_, ?_, ?_, ?_, ?_⟩
      · rw [ap_F_1, upd_s]
      · rw [ap_F_2, upd_s, hvd]
      · rw [ap_F_5, upd_s]
      · rw [ap_F_0, hct]
      · rw [ap_F_3, h.fi_new]
      · rw [ap_F_4, h.be_new st n (Nat.le_refl n)]; rfl
      · rw [ap_F_6, hdd]
      · rw [ap_F_7]
        unfold ap_mn
        rw [cnt_hm (nI 0) 64 hM]
    · have hin : i < n := by omega
      have sm : ∀ j, j < i + 1 → mo_sm (upd S n st) (mo_adM M N n 64) i j 64 = mo_sm S M i j 64 := fun j hj => sm_congr (upd_n (by omega)) (upd_n (by omega)) (fun q hq => adM_old M N hin hq) (fun q hq => adM_old M N (by omega) hq) 64 (Nat.le_refl 64)
      have hrow : ∀ q, q < 64 → mo_adM M N n 64 (64 * i + q) = M (64 * i + q) := fun q hq => adM_old M N hin hq
      obtain ⟨a1, a2, a5, a0, a3, a4, a6, a7⟩ := h.2.2.2 i hin
      refine ⟨?_, ?_, ?_, ?_, ?_, ?_, ?_, ?_⟩
      · rw [ap_F_old (by omega), upd_n (by omega)]; exact a1
      · rw [ap_F_old (by omega), upd_n (by omega)]; exact a2
      · rw [ap_F_old (by omega), upd_n (by omega)]; exact a5
      · rw [ap_F_old (by omega), cnt_congr (i + 1) sm]; exact a0
      · rw [ap_F_old (by omega), fi_congr i (fun j hj => sm j (by omega))]; exact a3
      · rw [ap_F_old (by omega), be_congr i (fun j hj => sm j (by omega))]; exact a4
      · rw [ap_F_old (by omega), dead_congr hrow]; exact a6
      · rw [ap_F_old (by omega), hm_congr (nI 0) 64 hrow]; exact a7
/-! what is taken, what is refused -/
theorem st_iff1 (p : Int32) : ga_isState p = 0 ↔ ¬ (0 ≤ p.toInt ∧ p.toInt < 512 ∧ (p.toInt / 32 ≤ 7 ∨ p.toInt / 32 = 15)) := by
  have e : (p >>> (nI 5 &&& 31)).toInt = p.toInt / 32 := by rw [pk_shr p (nI 5 &&& 31) 5 (by decide), Int.shiftRight_eq_div_pow]; rfl
  unfold ga_isState
  by_cases c1 : p < 0
  · rw [if_pos c1]
    rw [Int32.lt_iff_toInt_lt] at c1
    have : (0 : Int32).toInt = 0 := rfl
    exact ⟨fun _ => by omega, fun _ => n0_eq⟩
  · rw [if_neg c1]
    rw [Int32.lt_iff_toInt_lt] at c1
    have z0 : (0 : Int32).toInt = 0 := rfl
    by_cases c2 : p < nI 512
    · rw [if_pos c2]
      rw [Int32.lt_iff_toInt_lt, nI_toInt (by omega)] at c2
      by_cases c3 : p >>> (nI 5 &&& 31) ≤ nI 7
      · rw [if_pos c3]
        rw [Int32.le_iff_toInt_le, nI_toInt (by omega), e] at c3
        exact ⟨fun z => absurd z n1_ne, fun z => absurd ⟨by omega, by omega, Or.inl (by omega)⟩ z⟩
      · rw [if_neg c3]
        rw [Int32.le_iff_toInt_le, nI_toInt (by omega), e] at c3
        by_cases c4 : p >>> (nI 5 &&& 31) = nI 15
        · rw [if_pos c4]
          rw [← Int32.toInt_inj, nI_toInt (by omega), e] at c4
          exact ⟨fun z => absurd z n1_ne, fun z => absurd ⟨by omega, by omega, Or.inr (by omega)⟩ z⟩
        · rw [if_neg c4]
          rw [← Int32.toInt_inj, nI_toInt (by omega), e] at c4
          exact ⟨fun _ => by omega, fun _ => n0_eq⟩
    · rw [if_neg c2]
      rw [Int32.lt_iff_toInt_lt, nI_toInt (by omega)] at c2
      exact ⟨fun _ => by omega, fun _ => n0_eq⟩
theorem st_iff2 (p : Int32) : mo_isState p = 0 ↔ ¬ (0 ≤ p.toInt / 32 ∧ (p.toInt / 32 < 8 ∨ p.toInt / 32 = 15)) := by
  have e : (p >>> (nI 5 &&& 31)).toInt = p.toInt / 32 := by rw [pk_shr p (nI 5 &&& 31) 5 (by decide), Int.shiftRight_eq_div_pow]; rfl
  have z0 : (0 : Int32).toInt = 0 := rfl
  unfold mo_isState
  by_cases c1 : p >>> (nI 5 &&& 31) < 0
  · rw [if_pos c1]
    rw [Int32.lt_iff_toInt_lt, e] at c1
    exact ⟨fun _ => by omega, fun _ => n0_eq⟩
  · rw [if_neg c1]
    rw [Int32.lt_iff_toInt_lt, e] at c1
    by_cases c2 : p >>> (nI 5 &&& 31) < nI 8
    · rw [if_pos c2]
      rw [Int32.lt_iff_toInt_lt, nI_toInt (by omega), e] at c2
      exact ⟨fun z => absurd z n1_ne, fun z => absurd ⟨by omega, Or.inl (by omega)⟩ z⟩
    · rw [if_neg c2]
      rw [Int32.lt_iff_toInt_lt, nI_toInt (by omega), e] at c2
      by_cases c4 : p >>> (nI 5 &&& 31) = nI 15
      · rw [if_pos c4]
        rw [← Int32.toInt_inj, nI_toInt (by omega), e] at c4
        exact ⟨fun z => absurd z n1_ne, fun z => absurd ⟨by omega, Or.inr (by omega)⟩ z⟩
      · rw [if_neg c4]
        rw [← Int32.toInt_inj, nI_toInt (by omega), e] at c4
        exact ⟨fun _ => by omega, fun _ => n0_eq⟩
theorem st_iff (p : Int32) : ga_isState p = 0 ↔ mo_isState p = 0 := by
  rw [st_iff1, st_iff2]
  omega
/-- a test of 0 .. k, by the class -/
theorem rng_iff {p : Int32} {k : Int32} : (if p < 0 then nI 0 else if k < p then nI 0 else nI 1 : Int32) = 0 ↔ (p < 0 ∨ k < p) := by
  by_cases c1 : p < 0
  · rw [if_pos c1]; exact ⟨fun _ => Or.inl c1, fun _ => n0_eq⟩
  · rw [if_neg c1]
    by_cases c2 : k < p
    · rw [if_pos c2]; exact ⟨fun _ => Or.inr c2, fun _ => n0_eq⟩
    · rw [if_neg c2]; exact ⟨fun z => absurd z n1_ne, fun z => z.elim (fun w => absurd w c1) (fun w => absurd w c2)⟩
theorem ok_B (st mv cl : Int32) : ga_okB st mv cl = mo_okB st mv cl := by
  unfold ga_okB mo_okB
  have hm : ga_isMoves mv = 0 ↔ (mv < 0 ∨ nI 300 < mv) := rng_iff
  have hc : ga_isClock cl = 0 ↔ (cl < 0 ∨ nI 1000 < cl) := rng_iff
  by_cases c1 : mo_isState st = 0
  · rw [if_pos ((st_iff st).mpr c1), if_pos c1]
  · rw [if_neg (fun z => c1 ((st_iff st).mp z)), if_neg c1]
    by_cases c2 : mv < 0
    · rw [if_pos (hm.mpr (Or.inl c2)), if_pos c2]
    · rw [if_neg c2]
      by_cases c3 : nI 300 < mv
      · rw [if_pos (hm.mpr (Or.inr c3)), if_pos c3]
      · rw [if_neg (fun z => (hm.mp z).elim c2 c3), if_neg c3]
        by_cases c4 : cl < 0
        · rw [if_pos (hc.mpr (Or.inl c4)), if_pos c4]
        · rw [if_neg c4]
          by_cases c5 : nI 1000 < cl
          · rw [if_pos (hc.mpr (Or.inr c5)), if_pos c5]
          · rw [if_neg (fun z => (hc.mp z).elim c4 c5), if_neg c5]
theorem Rel.ok_N {G T : Nat → Int64} {F : Nat → Int32} {n : Nat} {N M S C V : Nat → Int32} (h : Rel G T F n N M S C V) (st mv : Int32) : ga_okN F n st mv = mo_okN V n st mv := by
  have hm : ga_isMoves mv = 0 ↔ (mv < 0 ∨ nI 300 < mv) := rng_iff
  have hA : (if ga_isState st = 0 then 2 else if ga_isMoves mv = 0 then 2 else 0) = mo_okA st mv := by
    unfold mo_okA
    by_cases c1 : mo_isState st = 0
    · rw [if_pos ((st_iff st).mpr c1), if_pos c1]
    · rw [if_neg (fun z => c1 ((st_iff st).mp z)), if_neg c1]
      by_cases c2 : mv < 0
      · rw [if_pos (hm.mpr (Or.inl c2)), if_pos c2]
      · rw [if_neg c2]
        by_cases c3 : nI 300 < mv
        · rw [if_pos (hm.mpr (Or.inr c3)), if_pos c3]
        · rw [if_neg (fun z => (hm.mp z).elim c2 c3), if_neg c3]
  have hn := h.1
  unfold ga_okN mo_okN
  rw [hA]
  by_cases c0 : n = 0
  · rw [if_pos c0, if_pos (by rw [ga_takes, if_pos c0]; exact n0_eq)]
  · rw [if_neg c0]
    by_cases c6 : n = 640
    · rw [if_pos c6, if_pos (by rw [ga_takes, if_neg c0, if_neg (by omega)]; exact n0_eq)]
    · rw [if_neg c6]
      have e := (h.2.2.2 (n - 1) (by omega)).2.1
      have ht : ga_takes F n = 0 ↔ ¬ (V (n - 1) ≤ 0) ∧ ¬ (nI 6 ≤ V (n - 1)) := by
        rw [ga_takes, if_neg c0, if_pos (by omega), e]
        simp only [Int32.lt_iff_toInt_lt, Int32.le_iff_toInt_le, nI_toInt (show 1 < 2 ^ 31 by omega), nI_toInt (show 5 < 2 ^ 31 by omega), nI_toInt (show 6 < 2 ^ 31 by omega)]
        have z0 : (0 : Int32).toInt = 0 := rfl
        rw [z0]
        by_cases d1 : (V (n - 1)).toInt < ((1 : Nat) : Int)
        · rw [if_pos d1]; exact ⟨fun z => absurd z n1_ne, fun z => by omega⟩
        · rw [if_neg d1]
          by_cases d2 : (V (n - 1)).toInt ≤ ((5 : Nat) : Int)
          · rw [if_pos d2]; exact ⟨fun _ => by omega, fun _ => n0_eq⟩
          · rw [if_neg d2]; exact ⟨fun z => absurd z n1_ne, fun z => by omega⟩
      by_cases d1 : V (n - 1) ≤ 0
      · rw [if_neg (fun z => (ht.mp z).1 d1), if_pos d1]
      · rw [if_neg d1]
        by_cases d2 : nI 6 ≤ V (n - 1)
        · rw [if_neg (fun z => (ht.mp z).2 d2), if_pos d2]
        · rw [if_pos (ht.mpr ⟨d1, d2⟩), if_neg d2]
theorem ok_N_n {F : Nat → Int32} {n : Nat} {st mv : Int32} (h : ga_okN F n st mv = 0) : 0 < n ∧ n < 640 := by
  unfold ga_okN at h
  by_cases c : ga_takes F n = 0
  · rw [if_pos c] at h; omega
  · exact ga_takes_n c
theorem Rel.cl_N {G T : Nat → Int64} {F : Nat → Int32} {n : Nat} {N M S C V : Nat → Int32} (h : Rel G T F n N M S C V) (hn : 0 < n) (ir : Int32) : ga_clN F n ir = mo_clN C n ir := by
  unfold ga_clN mo_clN
  rw [(h.2.2.2 (n - 1) (by omega)).1]
theorem lt8_iff (w : Int32) : ¬ w < nI 8 ↔ nI 7 < w := by
  rw [Int32.lt_iff_toInt_lt, Int32.lt_iff_toInt_lt, nI_toInt (by omega), nI_toInt (by omega)]
  omega
theorem ok_O (n : Nat) (i w : Int32) : ga_okO n i w = mo_okO n i w := by
  unfold ga_okO mo_okO
  by_cases c1 : ga_isPos n i = 0
  · rw [if_pos c1, if_pos c1]
  · rw [if_neg c1, if_neg c1]
    by_cases c2 : w < 0
    · rw [if_pos c2, if_pos c2]
    · rw [if_neg c2, if_neg c2]
      by_cases c3 : w < nI 8
      · rw [if_pos c3, if_neg (fun z => (lt8_iff w).mpr z c3)]
      · rw [if_neg c3, if_pos ((lt8_iff w).mp c3)]
theorem le4_iff (w : Int32) : nI 4 ≤ w ↔ nI 3 < w := by
  rw [Int32.le_iff_toInt_le, Int32.lt_iff_toInt_lt, nI_toInt (by omega), nI_toInt (by omega)]
  omega
theorem part_iff (q : Int32) : ga_isPart q = 0 ↔ (q < 0 ∨ nI 3 < q) := by
  unfold ga_isPart
  by_cases c1 : q < 0
  · rw [if_pos c1]; exact ⟨fun _ => Or.inl c1, fun _ => n0_eq⟩
  · rw [if_neg c1]
    by_cases c2 : nI 4 ≤ q
    · rw [if_pos c2]; exact ⟨fun _ => Or.inr ((le4_iff q).mp c2), fun _ => n0_eq⟩
    · rw [if_neg c2]; exact ⟨fun z => absurd z n1_ne, fun z => z.elim (fun w => absurd w c1) (fun w => absurd ((le4_iff q).mpr w) c2)⟩
theorem ok_M (n : Nat) (i q : Int32) : ga_okM n i q = mo_okM n i q := by
  unfold ga_okM mo_okM
  by_cases c1 : ga_isPos n i = 0
  · rw [if_pos c1, if_pos c1]
  · rw [if_neg c1, if_neg c1]
    by_cases c2 : q < 0
    · rw [if_pos c2, if_pos ((part_iff q).mpr (Or.inl c2))]
    · rw [if_neg c2]
      by_cases c3 : nI 3 < q
      · rw [if_pos c3, if_pos ((part_iff q).mpr (Or.inr c3))]
      · rw [if_neg c3, if_neg (fun z => ((part_iff q).mp z).elim c2 c3)]
theorem ok_T (q : Int32) : ga_okT q = mo_okT q := by
  unfold ga_okT mo_okT
  by_cases c : mo_isState q = 0
  · rw [if_pos c, if_pos ((st_iff q).mpr c)]
  · rw [if_neg c, if_neg (fun z => c ((st_iff q).mp z))]
end
section
/-! the answers that only read, and squares -/
theorem Rel.ver {G T : Nat → Int64} {F : Nat → Int32} {n : Nat} {N M S C V : Nat → Int32} (h : Rel G T F n N M S C V) : (if n = 0 then (-1 : Int32) else F ((n - 1) * 8 + 2)) = if n = 0 then -1 else V (n - 1) := by
  by_cases c : n = 0
  · rw [if_pos c, if_pos c]
  · rw [if_neg c, if_neg c, (h.2.2.2 (n - 1) (by omega)).2.1]
theorem Rel.of_eq {G T : Nat → Int64} {F : Nat → Int32} {n : Nat} {N M S C V : Nat → Int32} (h : Rel G T F n N M S C V) {i w : Int32} (hok : ga_okO n i w = 0) : F (i.toNatClampNeg * 8 + w.toNatClampNeg) = mo_of S M C V i.toNatClampNeg w := by
  have hn := h.1
  unfold ga_okO at hok
  by_cases c1 : ga_isPos n i = 0
  · rw [if_pos c1] at hok; omega
  · rw [if_neg c1] at hok
    by_cases c2 : w < 0
    · rw [if_pos c2] at hok; omega
    · rw [if_neg c2] at hok
      by_cases c3 : w < nI 8
      · obtain ⟨a, ha, rfl⟩ := ga_isPos_nat hn c1
        obtain ⟨k, hk, rfl⟩ := nI_of c2
        have hk8 : k < 8 := (nI_ltI hk (by omega)).mp c3
        obtain ⟨a1, a2, a5, a0, a3, a4, a6, a7⟩ := h.2.2.2 a ha
        rw [nI_clamp (by omega), nI_clamp (by omega)]
        have ne : ∀ {x y : Nat}, x < 8 → y < 8 → x ≠ y → ¬ nI x = nI y := fun hx hy hxy z => hxy ((nI_eq (by omega) (by omega)).mp z)
        rcases (show k = 0 ∨ k = 1 ∨ k = 2 ∨ k = 3 ∨ k = 4 ∨ k = 5 ∨ k = 6 ∨ k = 7 by omega) with rfl | rfl | rfl | rfl | rfl | rfl | rfl | rfl
        · rw [mo_of, if_pos rfl]; exact a0
        · rw [mo_of, if_neg (ne (by omega) (by omega) (by omega)), if_pos rfl]; exact a1
        · rw [mo_of, if_neg (ne (by omega) (by omega) (by omega)), if_neg (ne (by omega) (by omega) (by omega)), if_pos rfl]; exact a2
        · rw [mo_of, if_neg (ne (by omega) (by omega) (by omega)), if_neg (ne (by omega) (by omega) (by omega)), if_neg (ne (by omega) (by omega) (by omega)), if_pos rfl]; exact a3
        · rw [mo_of, if_neg (ne (by omega) (by omega) (by omega)), if_neg (ne (by omega) (by omega) (by omega)), if_neg (ne (by omega) (by omega) (by omega)), if_neg (ne (by omega) (by omega) (by omega)), if_pos rfl]; exact a4
        · rw [mo_of, if_neg (ne (by omega) (by omega) (by omega)), if_neg (ne (by omega) (by omega) (by omega)), if_neg (ne (by omega) (by omega) (by omega)), if_neg (ne (by omega) (by omega) (by omega)), if_neg (ne (by omega) (by omega) (by omega)), if_pos rfl]; exact a5
        · rw [mo_of, if_neg (ne (by omega) (by omega) (by omega)), if_neg (ne (by omega) (by omega) (by omega)), if_neg (ne (by omega) (by omega) (by omega)), if_neg (ne (by omega) (by omega) (by omega)), if_neg (ne (by omega) (by omega) (by omega)), if_neg (ne (by omega) (by omega) (by omega)), if_pos rfl]; exact a6
        · rw [mo_of, if_neg (ne (by omega) (by omega) (by omega)), if_neg (ne (by omega) (by omega) (by omega)), if_neg (ne (by omega) (by omega) (by omega)), if_neg (ne (by omega) (by omega) (by omega)), if_neg (ne (by omega) (by omega) (by omega)), if_neg (ne (by omega) (by omega) (by omega)), if_neg (ne (by omega) (by omega) (by omega))]; exact a7
      · rw [if_neg c3] at hok; omega
/-- sixteen men, put together again -/
theorem mn_eq {M : Nat → Int32} {a b : Nat} {g : Int64} (hM : ∀ k, k < 16 → M ((64 * a + 16 * b) + k) = nI (nib g k)) : ∀ k, k ≤ 16 → mo_mn M a b k = lN (uN g / 2 ^ (64 - 4 * k))
  | 0, _ => by rw [nib_top]; rfl
  | k + 1, hk => by
    have hnb := nib_lt g k
    have hup := nib_up g (k := k) (by omega)
    have hlt : uN g / 2 ^ (64 - 4 * (k + 1)) < 2 ^ 64 := Nat.lt_of_le_of_lt (Nat.div_le_self _ _) (by have := uN_lt g; omega)
    rw [mo_mn, mn_eq hM k (by omega), hM k (by omega), wb_shl _ (by omega), nI_l (n := nib g k) (by omega), hup]
    rw [hup] at hlt
    rw [show (2 : Nat) ^ 4 = 16 by rfl, g_or (k := 4) (p := 16) (by rfl) (by omega) (by omega), Nat.mul_comm]
theorem Rel.men_eq {G T : Nat → Int64} {F : Nat → Int32} {n : Nat} {N M S C V : Nat → Int32} (h : Rel G T F n N M S C V) {i q : Int32} (hok : ga_okM n i q = 0) : T (i.toNatClampNeg * 4 + q.toNatClampNeg) = mo_mn M i.toNatClampNeg q.toNatClampNeg 16 := by
  have hn := h.1
  unfold ga_okM at hok
  by_cases c1 : ga_isPos n i = 0
  · rw [if_pos c1] at hok; omega
  · rw [if_neg c1] at hok
    by_cases c2 : ga_isPart q = 0
    · rw [if_pos c2] at hok; omega
    · obtain ⟨a, ha, rfl⟩ := ga_isPos_nat hn c1
      obtain ⟨b, hb, rfl⟩ := ga_isPart_nat c2
      rw [nI_clamp (by omega), nI_clamp (by omega)]
      rw [mn_eq (g := T (a * 4 + b)) (fun k hk => by
        have e := h.2.2.1 a ha (16 * b + k) (by omega)
        rw [show (16 * b + k) / 16 = b by omega, show (16 * b + k) % 16 = k by omega] at e
        rw [← e, Nat.add_assoc]) 16 (Nat.le_refl 16)]
      rw [show 64 - 4 * 16 = 0 by omega, Nat.pow_zero, Nat.div_one]
      apply uN_inj
      have e2 : uN (lN (uN (T (a * 4 + b)))) = uN (T (a * 4 + b)) % 2 ^ 64 := rfl
      rw [e2]
      have := uN_lt (T (a * 4 + b))
      omega
theorem be_none {S M : Nat → Int32} {i : Nat} : ∀ k, k ≤ 640 → (mo_be S M i k = -1 ↔ mo_cnt S M i k = 0)
  | 0, _ => ⟨fun _ => rfl, fun _ => rfl⟩
  | k + 1, hk => by
    have ih := be_none (S := S) (M := M) (i := i) k (by omega)
    by_cases c : mo_sm S M i k 64 = 0
    · rw [mo_be, mo_cnt, if_pos c, if_pos c, Nat.add_zero]; exact ih
    · rw [mo_be, mo_cnt, if_neg c, if_neg c]
      constructor
      · intro z
        have := congrArg Int32.toInt z
        rw [nI_toInt (by omega)] at this
        have h1 : (-1 : Int32).toInt = -1 := by decide
        omega
      · intro z; omega
theorem cnt_self {S M : Nat → Int32} {i : Nat} : mo_cnt S M i (i + 1) = mo_cnt S M i i + 1 := by
  rw [mo_cnt, if_neg (fun z => (mo_sm_iff _ _ _ _ _).mp z ⟨rfl, fun _ _ => rfl⟩)]
theorem Rel.look_eq {G T : Nat → Int64} {F : Nat → Int32} {n : Nat} {N M S C V : Nat → Int32} (h : Rel G T F n N M S C V) (q : Int32) : ga_look F n q = mo_look S M C n q := by
  have hn := h.1
  have d : ∀ k, k ≤ n → ga_diff F k = mo_df S M k := by
    intro k
    induction k with
    | zero => intro _; rfl
    | succ k ih =>
      intro hk
      obtain ⟨-, -, -, -, -, a4, -⟩ := h.2.2.2 k (by omega)
      rw [ga_diff, mo_df, ih (by omega), a4]
      have e := be_none (S := S) (M := M) (i := k) k (by omega)
      by_cases c : mo_be S M k k = -1
      · rw [if_pos c, if_pos (by rw [cnt_self, e.mp c])]
      · rw [if_neg c, if_neg (fun z => c (e.mpr (by rw [cnt_self] at z; omega)))]
  have g0 : ∀ k, k ≤ n → ga_great F 0 k = nI (mo_gc S M k) := by
    intro k
    induction k with
    | zero => intro _; rfl
    | succ k ih =>
      intro hk
      obtain ⟨-, -, -, a0, -⟩ := h.2.2.2 k (by omega)
      have l1 := mo_gc_le S M k
      have l2 := mo_cnt_le S M k (k + 1)
      rw [ga_great, mo_gc, ih (by omega), a0]
      by_cases c : mo_cnt S M k (k + 1) ≤ mo_gc S M k
      · rw [if_neg (nI_nlt c (by omega)), if_pos c]
      · rw [if_pos (nI_lt (by omega) (by omega)), if_neg c]
  have g1 : ∀ k, k ≤ n → ga_great F 1 k = mo_gl C k := by
    intro k
    induction k with
    | zero => intro _; rfl
    | succ k ih =>
      intro hk
      obtain ⟨a1, -⟩ := h.2.2.2 k (by omega)
      rw [ga_great, mo_gl, ih (by omega), a1]
      by_cases c : C k ≤ mo_gl C k
      · rw [if_neg (by rw [Int32.lt_iff_toInt_lt]; rw [Int32.le_iff_toInt_le] at c; omega), if_pos c]
      · rw [if_pos (by rw [Int32.lt_iff_toInt_lt]; rw [Int32.le_iff_toInt_le] at c; omega), if_neg c]
  unfold ga_look mo_look
  rw [n0_eq, d n (Nat.le_refl n), g0 n (Nat.le_refl n), g1 n (Nat.le_refl n)]
theorem Rel.sq {G T : Nat → Int64} {F : Nat → Int32} {n : Nat} {N M S C V : Nat → Int32} (h : Rel G T F n N M S C V) (q : Int32) (g : Int64) : ga_sqR q g = mo_sqR q g ∧ Rel (ga_sqG G q g) T F n (mo_sqW N q g) M S C V := by
  have hp := part_iff q
  unfold ga_sqR mo_sqR ga_sqG mo_sqW
  by_cases c1 : q < 0
  · rw [if_pos (hp.mpr (Or.inl c1)), if_pos c1, if_pos (hp.mpr (Or.inl c1)), if_pos c1]; exact ⟨rfl, h⟩
  · by_cases c2 : nI 3 < q
    · have c3 : ¬ q ≤ nI 3 := by rw [Int32.le_iff_toInt_le]; rw [Int32.lt_iff_toInt_lt] at c2; omega
      rw [if_pos (hp.mpr (Or.inr c2)), if_neg c1, if_neg c3, if_pos (hp.mpr (Or.inr c2)), if_neg c1, if_neg c3]; exact ⟨rfl, h⟩
    · have c3 : q ≤ nI 3 := by rw [Int32.le_iff_toInt_le]; rw [Int32.lt_iff_toInt_lt] at c2; omega
      have hq : ¬ ga_isPart q = 0 := fun z => (hp.mp z).elim c1 c2
      rw [if_neg hq, if_neg c1, if_pos c3, if_neg hq, if_neg c1, if_pos c3]
      by_cases c4 : ∀ k, k < 16 → nib g k ≤ 12
      · have c5 := (men_ok g).mpr c4
        have c6 : ¬ ga_areMen g = 0 := by rw [ga_areMen, if_pos c4]; exact n1_ne
        rw [if_neg c6, if_pos c5, if_neg c6, if_pos c5]
        refine ⟨rfl, h.1, fun k hk => ?_, h.2.2⟩
        obtain ⟨a, ha, rfl⟩ := ga_isPart_nat hq
        rw [nI_clamp (by omega)]
        unfold mo_sqN sqm
        by_cases e : k / 16 = a
        · rw [if_pos (by omega), e, show vp_updL G a g a = g from pk_uLs, show k - 16 * a = k % 16 by omega]
        · rw [if_neg (by omega), show vp_updL G a g (k / 16) = G (k / 16) from pk_uLn e]
          exact h.2.1 k hk
      · have c5 : ¬ ∀ k, k < 16 → uN g / 2 ^ (4 * k) % 16 ≤ 12 := fun z => c4 ((men_ok g).mp z)
        have c6 : ga_areMen g = 0 := by rw [ga_areMen, if_neg c4]; exact n0_eq
        rw [if_pos c6, if_neg c5, if_pos c6, if_neg c5]
        exact ⟨rfl, h⟩
end
section
set_option maxHeartbeats 4000000 in
set_option maxRecDepth 100000 in
theorem k_X1_thrown (l : Launch) (dC : Nat → ClassId) (dI : Nat → Nat → Nat) (cI : ClassId) (y a b c9 d v : Nat) (th : Int32) (N : Nat → Int32) (n : Nat) (M S C V : Nat → Int32)  : Met l yX1_thrown wsX1_thrown ({ frames := 0, cells := 0, slots := 0, locals := 0 } : Room) (rd (dC, dI) (wM cI y a b c9 d v th N n M S C V) (tM cI) [.ref y]) (QcRead th) 0 0 nofree := by
  refine Met.ofW (cc := cX1_thrown) (maxL := 1) (ret := (some .int)) (by decide) rfl ?_
  intro p e s m args below meth c s₁ B hml hv
  obtain ⟨rfl, hP, hK⟩ := hv
  have hx := B.exec
  have hb := B.bytes
  have hr := B.returns
  have hts := atoms_spec (ws := wsX1_thrown) B.pre
  have hown : s.vm.findClass RX1 = some m.cls := findClass_of_methodNamed B.named
  have hlocks := B.notSynchronized
  have hinX1 : ∀ w ∈ u_ws RX1 TX1 7, w ∈ wsX1_thrown := by decide +kernel
  have hf26 := hts (.fieldLink RX1 26 "GameArbiterModel" "thrown" "I") (by decide +kernel)
  have hl := lv_entry ([.ref y]) (n := 1) (Nat.le_of_ble_eq_true rfl)
  rw [lg_entry_eq]
  generalize (lg_sl ([.ref y]) ++ List.replicate (1 - (lg_sl ([.ref y])).length) Slot.unset).toArray = ls at hl ⊢
  replace hl : lv_has ls 1 [(0, .ref y)] := hl
  refine lv_aload_n hx hb dX1_thrown_0 rfl (lv_at hl 0 rfl) ?_
  refine va_get (D := (dC, dI)) (ci := 1) (v := .int th) (C := RX1) (T := TX1) (N := 7) hx hb hts hinX1 hown hK hP 0 rfl rfl 0 (by decide) hf26 (fun _ h9 => h9) rfl dX1_thrown_1 ?_
  exact rd_ret hx hb hr hlocks (rfl) dX1_thrown_4
set_option maxHeartbeats 4000000 in
set_option maxRecDepth 100000 in
theorem k_X1_isState (l : Launch) (a : Int32)  : Met l yX1_isState wsX1_isState ({ frames := 0, cells := 0, slots := 0, locals := 0 } : Room) (pu [.int a]) (QcRead (mo_isState a)) 0 0 nofree := by
  refine Met.ofW (cc := cX1_isState) (maxL := 2) (ret := (some .boolean)) (by decide) rfl ?_
  intro p e s m args below meth c s₁ B hml hv
  obtain ⟨rfl, -⟩ := hv
  have hx := B.exec
  have hb := B.bytes
  have hr := B.returns
  have hts := atoms_spec (ws := wsX1_isState) B.pre
  have hown : s.vm.findClass RX1 = some m.cls := findClass_of_methodNamed B.named
  have hlocks := B.notSynchronized
  have hl := lv_entry ([.int a]) (n := 2) (Nat.le_of_ble_eq_true rfl)
  rw [lg_entry_eq]
  generalize (lg_sl ([.int a]) ++ List.replicate (2 - (lg_sl ([.int a])).length) Slot.unset).toArray = ls at hl ⊢
  replace hl : lv_has ls 2 [(0, .int a)] := hl
  refine lv_iload_n hx hb dX1_isState_0 rfl (lv_at hl 0 rfl) ?_
  refine lv_iconst (v := nI 5) hx hb dX1_isState_1 (by decide) ?_
  refine lv_ishr hx hb dX1_isState_2 ?_
  refine lv_istore_n (lv' := [(1, .int (a >>> ((nI 5) &&& 31))), (0, .int a)]) hx hb dX1_isState_3 rfl hl (by decide) rfl (fun ls hl => ?_)
  refine lv_iload_n hx hb dX1_isState_4 rfl (lv_at hl 0 rfl) ?_
  refine lv_if_lt (tgt := 24) hx hb dX1_isState_5 (by decide) (fun c_1 => ?_) (fun c_1 => ?_)
  · refine lv_iconst (v := nI 0) hx hb dX1_isState_24 (by decide) ?_
    exact rd_retz hx hb hr hlocks rfl (by rw [mo_isState, if_pos c_1]) dX1_isState_25
  · refine lv_iload_n hx hb dX1_isState_8 rfl (lv_at hl 0 rfl) ?_
    refine lv_bipush (v := nI 8) hx hb dX1_isState_9 (by decide) ?_
    refine lv_icmp_lt (tgt := 20) hx hb dX1_isState_11 (by decide) (fun c_2 => ?_) (fun c_2 => ?_)
    · refine lv_iconst (v := nI 1) hx hb dX1_isState_20 (by decide) ?_
      refine lv_goto (tgt := 25) hx hb dX1_isState_21 (by decide) ?_
      exact rd_retz hx hb hr hlocks rfl (by rw [mo_isState, if_neg c_1, if_pos c_2]) dX1_isState_25
    · refine lv_iload_n hx hb dX1_isState_14 rfl (lv_at hl 0 rfl) ?_
      refine lv_bipush (v := nI 15) hx hb dX1_isState_15 (by decide) ?_
      refine lv_icmp_ne (tgt := 24) hx hb dX1_isState_17 (by decide) (fun c_3 => ?_) (fun c_3 => ?_)
      · refine lv_iconst (v := nI 0) hx hb dX1_isState_24 (by decide) ?_
        exact rd_retz hx hb hr hlocks rfl (by rw [mo_isState, if_neg c_1, if_neg c_2, if_neg c_3]) dX1_isState_25
      · refine lv_iconst (v := nI 1) hx hb dX1_isState_20 (by decide) ?_
        refine lv_goto (tgt := 25) hx hb dX1_isState_21 (by decide) ?_
        exact rd_retz hx hb hr hlocks rfl (by rw [mo_isState, if_neg c_1, if_neg c_2, if_pos c_3]) dX1_isState_25
set_option maxHeartbeats 4000000 in
set_option maxRecDepth 100000 in
theorem k_X1_isIn (l : Launch) (dC : Nat → ClassId) (dI : Nat → Nat → Nat) (cI : ClassId) (y a b c9 d v : Nat) (th : Int32) (N : Nat → Int32) (n : Nat) (M S C V : Nat → Int32) (i : Int32)  : Met l yX1_isIn wsX1_isIn ({ frames := 0, cells := 0, slots := 0, locals := 0 } : Room) (rd (dC, dI) (wM cI y a b c9 d v th N n M S C V) (tM cI) [.ref y, .int i]) (QcRead (ga_isPos n i)) 0 0 nofree := by
  refine Met.ofW (cc := cX1_isIn) (maxL := 2) (ret := (some .boolean)) (by decide) rfl ?_
  intro p e s m args below meth c s₁ B hml hv
  obtain ⟨rfl, hP, hK⟩ := hv
  have hx := B.exec
  have hb := B.bytes
  have hr := B.returns
  have hts := atoms_spec (ws := wsX1_isIn) B.pre
  have hown : s.vm.findClass RX1 = some m.cls := findClass_of_methodNamed B.named
  have hlocks := B.notSynchronized
  have hinX1 : ∀ w ∈ u_ws RX1 TX1 7, w ∈ wsX1_isIn := by decide +kernel
  have hf53 := hts (.fieldLink RX1 53 "GameArbiterModel" "many" "I") (by decide +kernel)
  have hl := lv_entry ([.ref y, .int i]) (n := 2) (Nat.le_of_ble_eq_true rfl)
  rw [lg_entry_eq]
  generalize (lg_sl ([.ref y, .int i]) ++ List.replicate (2 - (lg_sl ([.ref y, .int i])).length) Slot.unset).toArray = ls at hl ⊢
  replace hl : lv_has ls 2 [(0, .ref y), (1, .int i)] := hl
  refine lv_iload_n hx hb dX1_isIn_0 rfl (lv_at hl 1 rfl) ?_
  refine lv_if_lt (tgt := 16) hx hb dX1_isIn_1 (by decide) (fun c_1 => ?_) (fun c_1 => ?_)
  · refine lv_iconst (v := nI 0) hx hb dX1_isIn_16 (by decide) ?_
    exact rd_retz hx hb hr hlocks rfl (by rw [ga_isPos, if_pos c_1]) dX1_isIn_17
  · refine lv_iload_n hx hb dX1_isIn_4 rfl (lv_at hl 1 rfl) ?_
    refine lv_aload_n hx hb dX1_isIn_5 rfl (lv_at hl 0 rfl) ?_
    refine va_get (D := (dC, dI)) (ci := 1) (v := .int (nI n)) (C := RX1) (T := TX1) (N := 7) hx hb hts hinX1 hown hK hP 0 rfl rfl 2 (by decide) hf53 (fun _ h9 => h9) rfl dX1_isIn_6 ?_
    refine lv_icmp_ge (tgt := 16) hx hb dX1_isIn_9 (by decide) (fun c_2 => ?_) (fun c_2 => ?_)
    · refine lv_iconst (v := nI 0) hx hb dX1_isIn_16 (by decide) ?_
      exact rd_retz hx hb hr hlocks rfl (by rw [ga_isPos, if_neg c_1, if_pos c_2]) dX1_isIn_17
    · refine lv_iconst (v := nI 1) hx hb dX1_isIn_12 (by decide) ?_
      refine lv_goto (tgt := 17) hx hb dX1_isIn_13 (by decide) ?_
      exact rd_retz hx hb hr hlocks rfl (by rw [ga_isPos, if_neg c_1, if_neg c_2]) dX1_isIn_17
set_option maxHeartbeats 4000000 in
set_option maxRecDepth 100000 in
theorem k_X1_isSame (l : Launch) (dC : Nat → ClassId) (dI : Nat → Nat → Nat) (cI : ClassId) (y a b c9 d v : Nat) (th : Int32) (N : Nat → Int32) (n : Nat) (M S C V : Nat → Int32) (j k : Nat) (hj : j < 640) (hk : k < 640) : Met l yX1_isSame wsX1_isSame ({ frames := 0, cells := 0, slots := 0, locals := 0 } : Room) (rd (dC, dI) (wM cI y a b c9 d v th N n M S C V) (tM cI) [.ref y, .int (nI j), .int (nI k)]) (QcRead (mo_sm S M j k 64)) 0 0 nofree := by
  refine Met.ofW (cc := cX1_isSame) (maxL := 5) (ret := (some .boolean)) (by decide) rfl ?_
  intro p e s m args below meth c s₁ B hml hv
  obtain ⟨rfl, hP, hK⟩ := hv
  have hx := B.exec
  have hb := B.bytes
  have hr := B.returns
  have hts := atoms_spec (ws := wsX1_isSame) B.pre
  have hown : s.vm.findClass RX1 = some m.cls := findClass_of_methodNamed B.named
  have hlocks := B.notSynchronized
  have hinX1 : ∀ w ∈ u_ws RX1 TX1 7, w ∈ wsX1_isSame := by decide +kernel
  have hf14 := hts (.fieldLink RX1 14 "GameArbiterModel" "men" "[I") (by decide +kernel)
  have hf17 := hts (.fieldLink RX1 17 "GameArbiterModel" "states" "[I") (by decide +kernel)
  have hl := lv_entry ([.ref y, .int (nI j), .int (nI k)]) (n := 5) (Nat.le_of_ble_eq_true rfl)
  rw [lg_entry_eq]
  generalize (lg_sl ([.ref y, .int (nI j), .int (nI k)]) ++ List.replicate (5 - (lg_sl ([.ref y, .int (nI j), .int (nI k)])).length) Slot.unset).toArray = ls at hl ⊢
  replace hl : lv_has ls 5 [(0, .ref y), (1, .int (nI j)), (2, .int (nI k))] := hl
  refine lv_aload_n hx hb dX1_isSame_0 rfl (lv_at hl 0 rfl) ?_
  refine va_get (D := (dC, dI)) (ci := 1) (v := .ref c9) (C := RX1) (T := TX1) (N := 7) hx hb hts hinX1 hown hK hP 0 rfl rfl 4 (by decide) hf17 (fun _ h9 => h9) rfl dX1_isSame_1 ?_
  refine lv_iload_n hx hb dX1_isSame_4 rfl (lv_at hl 1 rfl) ?_
  refine ix_iald hx hb hK hP 3 0 rfl rfl (show j < 640 by omega) (by decide) dX1_isSame_5 ?_
  refine lv_aload_n hx hb dX1_isSame_6 rfl (lv_at hl 0 rfl) ?_
  refine va_get (D := (dC, dI)) (ci := 1) (v := .ref c9) (C := RX1) (T := TX1) (N := 7) hx hb hts hinX1 hown hK hP 0 rfl rfl 4 (by decide) hf17 (fun _ h9 => h9) rfl dX1_isSame_7 ?_
  refine lv_iload_n hx hb dX1_isSame_10 rfl (lv_at hl 2 rfl) ?_
  refine ix_iald hx hb hK hP 3 0 rfl rfl (show k < 640 by omega) (by decide) dX1_isSame_11 ?_
  have J20 : ∀ v0 : Int32, v0 = mo_sm S M j k 0 → W p l e (headSpec wsX1_isSame ({ frames := 0, cells := 0, slots := 0, locals := 0 } : Room)).room s m ([.ref y, .int (nI j), .int (nI k)] : List Value).toArray below meth c s.heap [] 0 0 (MQ below (QcRead (mo_sm S M j k 64)) ([.ref y, .int (nI j), .int (nI k)] : List Value).toArray s 0 0 nofree) (F0 m 20 ls [.int v0]) := by
    intro v0 ev0
    subst ev0
    refine lv_istore_n (lv' := [(3, .int (mo_sm S M j k 0)), (0, .ref y), (1, .int (nI j)), (2, .int (nI k))]) hx hb dX1_isSame_20 rfl hl (by decide) rfl (fun ls hl => ?_)
    refine lv_iconst (v := nI 0) hx hb dX1_isSame_21 (by decide) ?_
    refine lv_istore (lv' := [(4, .int (nI 0)), (3, .int (mo_sm S M j k 0)), (0, .ref y), (1, .int (nI j)), (2, .int (nI k))]) hx hb dX1_isSame_22 hl (by decide) rfl (fun ls hl => ?_)
    obtain ⟨i, hi0⟩ : ∃ i : Nat, i = 0 := ⟨0, rfl⟩
    replace hl := lv_sub hl [2, 3, 4, 1, 0] rfl
    replace hl : lv_has ls 5 [(0, .ref y), (1, .int (nI j)), (2, .int (nI k)), (3, .int (mo_sm S M j k i)), (4, .int (nI i))] := by rw [hi0]; exact hl
    have hib : i ≤ 64 := by omega
    clear hi0
    obtain ⟨zi, hzi⟩ : ∃ z : Nat, 64 < i + z := ⟨64 + 1, by omega⟩
    induction zi generalizing i ls with
    | zero => exact absurd hzi (by omega)
    | succ zi ihi =>
      refine lv_iload hx hb dX1_isSame_24 (lv_at hl 4 rfl) ?_
      refine lv_bipush (v := nI 64) hx hb dX1_isSame_26 (by decide) ?_
      refine lv_icmp_ge (tgt := 74) hx hb dX1_isSame_28 (by decide) (fun c_1 => ?_) (fun c_1 => ?_)
      · have c_1 : 64 ≤ i := (nI_leI (show 64 < 2 ^ 31 by omega) (show i < 2 ^ 31 by omega)).mp c_1
        refine lv_iload_n hx hb dX1_isSame_74 rfl (lv_at hl 3 rfl) ?_
        exact rd_retz hx hb hr hlocks (mo_sm_nar _ _ _ _ _) (by rw [show i = 64 by omega]) dX1_isSame_75
      · have c_1 : ¬ (64 ≤ i) := fun h => c_1 ((nI_leI (show 64 < 2 ^ 31 by omega) (show i < 2 ^ 31 by omega)).mpr h)
        refine lv_iload_n hx hb dX1_isSame_31 rfl (lv_at hl 3 rfl) ?_
        refine lv_if_eq (tgt := 66) hx hb dX1_isSame_32 (by decide) (fun c_2 => ?_) (fun c_2 => ?_)
        · refine lv_iconst (v := nI 0) hx hb dX1_isSame_66 (by decide) ?_
          refine lv_is (show nI 0 = mo_sm S M j k (i + 1) from by rw [mo_sm, if_pos c_2]) ?_
          refine lv_istore_n (lv' := [(3, .int (mo_sm S M j k (i + 1))), (0, .ref y), (1, .int (nI j)), (2, .int (nI k)), (4, .int (nI i))]) hx hb dX1_isSame_67 rfl hl (by decide) rfl (fun ls hl => ?_)
          refine lv_iinc (v := nI (i + 1)) (lv' := [(4, .int (nI (i + 1))), (3, .int (mo_sm S M j k (i + 1))), (0, .ref y), (1, .int (nI j)), (2, .int (nI k))]) hx hb dX1_isSame_68 hl (k := 4) rfl (nI_1 _) (by decide) rfl (fun ls hl => ?_)
          refine lv_goto (tgt := 24) hx hb dX1_isSame_71 (by decide) ?_
          exact ihi _ _ (lv_sub hl [2, 3, 4, 1, 0] rfl) (by omega) (by omega)
        · refine lv_aload_n hx hb dX1_isSame_35 rfl (lv_at hl 0 rfl) ?_
          refine va_get (D := (dC, dI)) (ci := 1) (v := .ref b) (C := RX1) (T := TX1) (N := 7) hx hb hts hinX1 hown hK hP 0 rfl rfl 3 (by decide) hf14 (fun _ h9 => h9) rfl dX1_isSame_36 ?_
          refine lv_bipush (v := nI 64) hx hb dX1_isSame_39 (by decide) ?_
          refine lv_iload_n hx hb dX1_isSame_41 rfl (lv_at hl 1 rfl) ?_
          refine lv_imul hx hb dX1_isSame_42 ?_
          refine lv_is (pk_mul _ _) ?_
          refine lv_iload hx hb dX1_isSame_43 (lv_at hl 4 rfl) ?_
          refine lv_iadd hx hb dX1_isSame_45 ?_
          refine lv_is (nI_add _ _) ?_
          refine ix_iald hx hb hK hP 2 0 rfl rfl (show (64 * j) + i < 40960 by omega) (by decide) dX1_isSame_46 ?_
          refine lv_aload_n hx hb dX1_isSame_47 rfl (lv_at hl 0 rfl) ?_
          refine va_get (D := (dC, dI)) (ci := 1) (v := .ref b) (C := RX1) (T := TX1) (N := 7) hx hb hts hinX1 hown hK hP 0 rfl rfl 3 (by decide) hf14 (fun _ h9 => h9) rfl dX1_isSame_48 ?_
          refine lv_bipush (v := nI 64) hx hb dX1_isSame_51 (by decide) ?_
          refine lv_iload_n hx hb dX1_isSame_53 rfl (lv_at hl 2 rfl) ?_
          refine lv_imul hx hb dX1_isSame_54 ?_
          refine lv_is (pk_mul _ _) ?_
          refine lv_iload hx hb dX1_isSame_55 (lv_at hl 4 rfl) ?_
          refine lv_iadd hx hb dX1_isSame_57 ?_
          refine lv_is (nI_add _ _) ?_
          refine ix_iald hx hb hK hP 2 0 rfl rfl (show (64 * k) + i < 40960 by omega) (by decide) dX1_isSame_58 ?_
          refine lv_icmp_ne (tgt := 66) hx hb dX1_isSame_59 (by decide) (fun c_3 => ?_) (fun c_3 => ?_)
          · refine lv_iconst (v := nI 0) hx hb dX1_isSame_66 (by decide) ?_
            refine lv_is (show nI 0 = mo_sm S M j k (i + 1) from by rw [mo_sm, if_neg c_2, if_neg c_3]) ?_
            refine lv_istore_n (lv' := [(3, .int (mo_sm S M j k (i + 1))), (0, .ref y), (1, .int (nI j)), (2, .int (nI k)), (4, .int (nI i))]) hx hb dX1_isSame_67 rfl hl (by decide) rfl (fun ls hl => ?_)
            refine lv_iinc (v := nI (i + 1)) (lv' := [(4, .int (nI (i + 1))), (3, .int (mo_sm S M j k (i + 1))), (0, .ref y), (1, .int (nI j)), (2, .int (nI k))]) hx hb dX1_isSame_68 hl (k := 4) rfl (nI_1 _) (by decide) rfl (fun ls hl => ?_)
            refine lv_goto (tgt := 24) hx hb dX1_isSame_71 (by decide) ?_
            exact ihi _ _ (lv_sub hl [2, 3, 4, 1, 0] rfl) (by omega) (by omega)
          · refine lv_iconst (v := nI 1) hx hb dX1_isSame_62 (by decide) ?_
            refine lv_goto (tgt := 67) hx hb dX1_isSame_63 (by decide) ?_
            refine lv_is (show nI 1 = mo_sm S M j k (i + 1) from by rw [mo_sm, if_neg c_2, if_pos c_3]) ?_
            refine lv_istore_n (lv' := [(3, .int (mo_sm S M j k (i + 1))), (0, .ref y), (1, .int (nI j)), (2, .int (nI k)), (4, .int (nI i))]) hx hb dX1_isSame_67 rfl hl (by decide) rfl (fun ls hl => ?_)
            refine lv_iinc (v := nI (i + 1)) (lv' := [(4, .int (nI (i + 1))), (3, .int (mo_sm S M j k (i + 1))), (0, .ref y), (1, .int (nI j)), (2, .int (nI k))]) hx hb dX1_isSame_68 hl (k := 4) rfl (nI_1 _) (by decide) rfl (fun ls hl => ?_)
            refine lv_goto (tgt := 24) hx hb dX1_isSame_71 (by decide) ?_
            exact ihi _ _ (lv_sub hl [2, 3, 4, 1, 0] rfl) (by omega) (by omega)
  refine lv_icmp_ne (tgt := 19) hx hb dX1_isSame_12 (by decide) (fun c_4 => ?_) (fun c_4 => ?_)
  · refine lv_iconst (v := nI 0) hx hb dX1_isSame_19 (by decide) ?_
    exact J20 _ (by rw [mo_sm, if_neg c_4])
  · refine lv_iconst (v := nI 1) hx hb dX1_isSame_15 (by decide) ?_
    refine lv_goto (tgt := 20) hx hb dX1_isSame_16 (by decide) ?_
    exact J20 _ (by rw [mo_sm, if_pos c_4])
set_option maxHeartbeats 4000000 in
set_option maxRecDepth 100000 in
theorem k_X1_isNext (l : Launch) (dC : Nat → ClassId) (dI : Nat → Nat → Nat) (cI : ClassId) (y a b c9 d v : Nat) (th : Int32) (N : Nat → Int32) (n : Nat) (M S C V : Nat → Int32) (j : Nat) (q : Int32) (hj : j < 640) : Met l yX1_isNext wsX1_isNext ({ frames := 0, cells := 0, slots := 0, locals := 0 } : Room) (rd (dC, dI) (wM cI y a b c9 d v th N n M S C V) (tM cI) [.ref y, .int (nI j), .int q]) (QcRead (mo_nx S M N j q 64)) 0 0 nofree := by
  refine Met.ofW (cc := cX1_isNext) (maxL := 5) (ret := (some .boolean)) (by decide) rfl ?_
  intro p e s m args below meth c s₁ B hml hv
  obtain ⟨rfl, hP, hK⟩ := hv
  have hx := B.exec
  have hb := B.bytes
  have hr := B.returns
  have hts := atoms_spec (ws := wsX1_isNext) B.pre
  have hown : s.vm.findClass RX1 = some m.cls := findClass_of_methodNamed B.named
  have hlocks := B.notSynchronized
  have hinX1 : ∀ w ∈ u_ws RX1 TX1 7, w ∈ wsX1_isNext := by decide +kernel
  have hf7 := hts (.fieldLink RX1 7 "GameArbiterModel" "next" "[I") (by decide +kernel)
  have hf14 := hts (.fieldLink RX1 14 "GameArbiterModel" "men" "[I") (by decide +kernel)
  have hf17 := hts (.fieldLink RX1 17 "GameArbiterModel" "states" "[I") (by decide +kernel)
  have hl := lv_entry ([.ref y, .int (nI j), .int q]) (n := 5) (Nat.le_of_ble_eq_true rfl)
  rw [lg_entry_eq]
  generalize (lg_sl ([.ref y, .int (nI j), .int q]) ++ List.replicate (5 - (lg_sl ([.ref y, .int (nI j), .int q])).length) Slot.unset).toArray = ls at hl ⊢
  replace hl : lv_has ls 5 [(0, .ref y), (1, .int (nI j)), (2, .int q)] := hl
  refine lv_aload_n hx hb dX1_isNext_0 rfl (lv_at hl 0 rfl) ?_
  refine va_get (D := (dC, dI)) (ci := 1) (v := .ref c9) (C := RX1) (T := TX1) (N := 7) hx hb hts hinX1 hown hK hP 0 rfl rfl 4 (by decide) hf17 (fun _ h9 => h9) rfl dX1_isNext_1 ?_
  refine lv_iload_n hx hb dX1_isNext_4 rfl (lv_at hl 1 rfl) ?_
  refine ix_iald hx hb hK hP 3 0 rfl rfl (show j < 640 by omega) (by decide) dX1_isNext_5 ?_
  refine lv_iload_n hx hb dX1_isNext_6 rfl (lv_at hl 2 rfl) ?_
  have J15 : ∀ v0 : Int32, v0 = mo_nx S M N j q 0 → W p l e (headSpec wsX1_isNext ({ frames := 0, cells := 0, slots := 0, locals := 0 } : Room)).room s m ([.ref y, .int (nI j), .int q] : List Value).toArray below meth c s.heap [] 0 0 (MQ below (QcRead (mo_nx S M N j q 64)) ([.ref y, .int (nI j), .int q] : List Value).toArray s 0 0 nofree) (F0 m 15 ls [.int v0]) := by
    intro v0 ev0
    subst ev0
    refine lv_istore_n (lv' := [(3, .int (mo_nx S M N j q 0)), (0, .ref y), (1, .int (nI j)), (2, .int q)]) hx hb dX1_isNext_15 rfl hl (by decide) rfl (fun ls hl => ?_)
    refine lv_iconst (v := nI 0) hx hb dX1_isNext_16 (by decide) ?_
    refine lv_istore (lv' := [(4, .int (nI 0)), (3, .int (mo_nx S M N j q 0)), (0, .ref y), (1, .int (nI j)), (2, .int q)]) hx hb dX1_isNext_17 hl (by decide) rfl (fun ls hl => ?_)
    obtain ⟨i, hi0⟩ : ∃ i : Nat, i = 0 := ⟨0, rfl⟩
    replace hl := lv_sub hl [2, 3, 4, 1, 0] rfl
    replace hl : lv_has ls 5 [(0, .ref y), (1, .int (nI j)), (2, .int q), (3, .int (mo_nx S M N j q i)), (4, .int (nI i))] := by rw [hi0]; exact hl
    have hib : i ≤ 64 := by omega
    clear hi0
    obtain ⟨zi, hzi⟩ : ∃ z : Nat, 64 < i + z := ⟨64 + 1, by omega⟩
    induction zi generalizing i ls with
    | zero => exact absurd hzi (by omega)
    | succ zi ihi =>
      refine lv_iload hx hb dX1_isNext_19 (lv_at hl 4 rfl) ?_
      refine lv_bipush (v := nI 64) hx hb dX1_isNext_21 (by decide) ?_
      refine lv_icmp_ge (tgt := 64) hx hb dX1_isNext_23 (by decide) (fun c_1 => ?_) (fun c_1 => ?_)
      · have c_1 : 64 ≤ i := (nI_leI (show 64 < 2 ^ 31 by omega) (show i < 2 ^ 31 by omega)).mp c_1
        refine lv_iload_n hx hb dX1_isNext_64 rfl (lv_at hl 3 rfl) ?_
        exact rd_retz hx hb hr hlocks (mo_nx_nar _ _ _ _ _ _) (by rw [show i = 64 by omega]) dX1_isNext_65
      · have c_1 : ¬ (64 ≤ i) := fun h => c_1 ((nI_leI (show 64 < 2 ^ 31 by omega) (show i < 2 ^ 31 by omega)).mpr h)
        refine lv_iload_n hx hb dX1_isNext_26 rfl (lv_at hl 3 rfl) ?_
        refine lv_if_eq (tgt := 56) hx hb dX1_isNext_27 (by decide) (fun c_2 => ?_) (fun c_2 => ?_)
        · refine lv_iconst (v := nI 0) hx hb dX1_isNext_56 (by decide) ?_
          refine lv_is (show nI 0 = mo_nx S M N j q (i + 1) from by rw [mo_nx, if_pos c_2]) ?_
          refine lv_istore_n (lv' := [(3, .int (mo_nx S M N j q (i + 1))), (0, .ref y), (1, .int (nI j)), (2, .int q), (4, .int (nI i))]) hx hb dX1_isNext_57 rfl hl (by decide) rfl (fun ls hl => ?_)
          refine lv_iinc (v := nI (i + 1)) (lv' := [(4, .int (nI (i + 1))), (3, .int (mo_nx S M N j q (i + 1))), (0, .ref y), (1, .int (nI j)), (2, .int q)]) hx hb dX1_isNext_58 hl (k := 4) rfl (nI_1 _) (by decide) rfl (fun ls hl => ?_)
          refine lv_goto (tgt := 19) hx hb dX1_isNext_61 (by decide) ?_
          exact ihi _ _ (lv_sub hl [2, 3, 4, 1, 0] rfl) (by omega) (by omega)
        · refine lv_aload_n hx hb dX1_isNext_30 rfl (lv_at hl 0 rfl) ?_
          refine va_get (D := (dC, dI)) (ci := 1) (v := .ref b) (C := RX1) (T := TX1) (N := 7) hx hb hts hinX1 hown hK hP 0 rfl rfl 3 (by decide) hf14 (fun _ h9 => h9) rfl dX1_isNext_31 ?_
          refine lv_bipush (v := nI 64) hx hb dX1_isNext_34 (by decide) ?_
          refine lv_iload_n hx hb dX1_isNext_36 rfl (lv_at hl 1 rfl) ?_
          refine lv_imul hx hb dX1_isNext_37 ?_
          refine lv_is (pk_mul _ _) ?_
          refine lv_iload hx hb dX1_isNext_38 (lv_at hl 4 rfl) ?_
          refine lv_iadd hx hb dX1_isNext_40 ?_
          refine lv_is (nI_add _ _) ?_
          refine ix_iald hx hb hK hP 2 0 rfl rfl (show (64 * j) + i < 40960 by omega) (by decide) dX1_isNext_41 ?_
          refine lv_aload_n hx hb dX1_isNext_42 rfl (lv_at hl 0 rfl) ?_
          refine va_get (D := (dC, dI)) (ci := 1) (v := .ref a) (C := RX1) (T := TX1) (N := 7) hx hb hts hinX1 hown hK hP 0 rfl rfl 1 (by decide) hf7 (fun _ h9 => h9) rfl dX1_isNext_43 ?_
          refine lv_iload hx hb dX1_isNext_46 (lv_at hl 4 rfl) ?_
          refine ix_iald hx hb hK hP 1 0 rfl rfl (show i < 64 by omega) (by decide) dX1_isNext_48 ?_
          refine lv_icmp_ne (tgt := 56) hx hb dX1_isNext_49 (by decide) (fun c_3 => ?_) (fun c_3 => ?_)
          · refine lv_iconst (v := nI 0) hx hb dX1_isNext_56 (by decide) ?_
            refine lv_is (show nI 0 = mo_nx S M N j q (i + 1) from by rw [mo_nx, if_neg c_2, if_neg c_3]) ?_
            refine lv_istore_n (lv' := [(3, .int (mo_nx S M N j q (i + 1))), (0, .ref y), (1, .int (nI j)), (2, .int q), (4, .int (nI i))]) hx hb dX1_isNext_57 rfl hl (by decide) rfl (fun ls hl => ?_)
            refine lv_iinc (v := nI (i + 1)) (lv' := [(4, .int (nI (i + 1))), (3, .int (mo_nx S M N j q (i + 1))), (0, .ref y), (1, .int (nI j)), (2, .int q)]) hx hb dX1_isNext_58 hl (k := 4) rfl (nI_1 _) (by decide) rfl (fun ls hl => ?_)
            refine lv_goto (tgt := 19) hx hb dX1_isNext_61 (by decide) ?_
            exact ihi _ _ (lv_sub hl [2, 3, 4, 1, 0] rfl) (by omega) (by omega)
          · refine lv_iconst (v := nI 1) hx hb dX1_isNext_52 (by decide) ?_
            refine lv_goto (tgt := 57) hx hb dX1_isNext_53 (by decide) ?_
            refine lv_is (show nI 1 = mo_nx S M N j q (i + 1) from by rw [mo_nx, if_neg c_2, if_pos c_3]) ?_
            refine lv_istore_n (lv' := [(3, .int (mo_nx S M N j q (i + 1))), (0, .ref y), (1, .int (nI j)), (2, .int q), (4, .int (nI i))]) hx hb dX1_isNext_57 rfl hl (by decide) rfl (fun ls hl => ?_)
            refine lv_iinc (v := nI (i + 1)) (lv' := [(4, .int (nI (i + 1))), (3, .int (mo_nx S M N j q (i + 1))), (0, .ref y), (1, .int (nI j)), (2, .int q)]) hx hb dX1_isNext_58 hl (k := 4) rfl (nI_1 _) (by decide) rfl (fun ls hl => ?_)
            refine lv_goto (tgt := 19) hx hb dX1_isNext_61 (by decide) ?_
            exact ihi _ _ (lv_sub hl [2, 3, 4, 1, 0] rfl) (by omega) (by omega)
  refine lv_icmp_ne (tgt := 14) hx hb dX1_isNext_7 (by decide) (fun c_4 => ?_) (fun c_4 => ?_)
  · refine lv_iconst (v := nI 0) hx hb dX1_isNext_14 (by decide) ?_
    exact J15 _ (by rw [mo_nx, if_neg c_4])
  · refine lv_iconst (v := nI 1) hx hb dX1_isNext_10 (by decide) ?_
    refine lv_goto (tgt := 15) hx hb dX1_isNext_11 (by decide) ?_
    exact J15 _ (by rw [mo_nx, if_pos c_4])
set_option maxHeartbeats 4000000 in
set_option maxRecDepth 100000 in
theorem k_X1_countOf (l : Launch) (dC : Nat → ClassId) (dI : Nat → Nat → Nat) (cI : ClassId) (y a b c9 d v : Nat) (th : Int32) (N : Nat → Int32) (n : Nat) (M S C V : Nat → Int32) (j : Nat) (hj : j < 640) : Met l yX1_countOf wsX1_countOf ({ frames := 1, cells := 0, slots := 0, locals := 24 } : Room) (rd (dC, dI) (wM cI y a b c9 d v th N n M S C V) (tM cI) [.ref y, .int (nI j)]) (QcRead (nI (mo_cnt S M j (j + 1)))) 0 0 nofree := by
  refine Met.ofW (cc := cX1_countOf) (maxL := 4) (ret := (some .int)) (by decide) rfl ?_
  intro p e s m args below meth c s₁ B hml hv
  obtain ⟨rfl, hP, hK⟩ := hv
  have hx := B.exec
  have hb := B.bytes
  have hr := B.returns
  have hts := atoms_spec (ws := wsX1_countOf) B.pre
  have hown : s.vm.findClass RX1 = some m.cls := findClass_of_methodNamed B.named
  have hlocks := B.notSynchronized
  have hinX1 : ∀ w ∈ u_ws RX1 TX1 7, w ∈ wsX1_countOf := by decide +kernel
  have hl := lv_entry ([.ref y, .int (nI j)]) (n := 4) (Nat.le_of_ble_eq_true rfl)
  rw [lg_entry_eq]
  generalize (lg_sl ([.ref y, .int (nI j)]) ++ List.replicate (4 - (lg_sl ([.ref y, .int (nI j)])).length) Slot.unset).toArray = ls at hl ⊢
  replace hl : lv_has ls 4 [(0, .ref y), (1, .int (nI j))] := hl
  refine lv_iconst (v := nI 0) hx hb dX1_countOf_0 (by decide) ?_
  refine lv_istore_n (lv' := [(2, .int (nI 0)), (0, .ref y), (1, .int (nI j))]) hx hb dX1_countOf_1 rfl hl (by decide) rfl (fun ls hl => ?_)
  refine lv_iconst (v := nI 0) hx hb dX1_countOf_2 (by decide) ?_
  refine lv_istore_n (lv' := [(3, .int (nI 0)), (2, .int (nI 0)), (0, .ref y), (1, .int (nI j))]) hx hb dX1_countOf_3 rfl hl (by decide) rfl (fun ls hl => ?_)
  obtain ⟨i, hi0⟩ : ∃ i : Nat, i = 0 := ⟨0, rfl⟩
  replace hl := lv_sub hl [2, 3, 1, 0] rfl
  replace hl : lv_has ls 4 [(0, .ref y), (1, .int (nI j)), (2, .int (nI (mo_cnt S M j i))), (3, .int (nI i))] := by rw [hi0]; exact hl
  have hib : i ≤ j + 1 := by omega
  clear hi0
  obtain ⟨zi, hzi⟩ : ∃ z : Nat, j + 1 < i + z := ⟨j + 1 + 1, by omega⟩
  induction zi generalizing i ls with
  | zero => exact absurd hzi (by omega)
  | succ zi ihi =>
    refine lv_iload_n hx hb dX1_countOf_4 rfl (lv_at hl 3 rfl) ?_
    refine lv_iload_n hx hb dX1_countOf_5 rfl (lv_at hl 1 rfl) ?_
    refine lv_icmp_gt (tgt := 32) hx hb dX1_countOf_6 (by decide) (fun c_1 => ?_) (fun c_1 => ?_)
    · have c_1 : j < i := (nI_ltI (show j < 2 ^ 31 by omega) (show i < 2 ^ 31 by omega)).mp c_1
      refine lv_iload_n hx hb dX1_countOf_32 rfl (lv_at hl 2 rfl) ?_
      exact rd_ret hx hb hr hlocks (by rw [show i = j + 1 by omega]) dX1_countOf_33
    · have c_1 : ¬ (j < i) := fun h => c_1 ((nI_ltI (show j < 2 ^ 31 by omega) (show i < 2 ^ 31 by omega)).mpr h)
      refine lv_iload_n hx hb dX1_countOf_9 rfl (lv_at hl 2 rfl) ?_
      refine lv_aload_n hx hb dX1_countOf_10 rfl (lv_at hl 0 rfl) ?_
      refine lv_iload_n hx hb dX1_countOf_11 rfl (lv_at hl 1 rfl) ?_
      refine lv_iload_n hx hb dX1_countOf_12 rfl (lv_at hl 3 rfl) ?_
      refine rd_callV (rest := [.int (nI (mo_cnt S M j i))]) ⟨hx, hb, hml, hown, hts⟩ (k_X1_isSame l dC dI cI y a b c9 d v th N n M S C V j i (by omega) (by omega)) (cwV 2 hts gX1_countOf_X1_isSame rfl rfl rfl (by decide +kernel) ⟨Nat.le_of_ble_eq_true rfl, Nat.le_of_ble_eq_true rfl⟩) hK hP rfl (q0 := 0) rfl rfl hl.1 rfl (Nat.le_of_ble_eq_true rfl) dX1_countOf_13 ⟨Nat.zero_le _, Nat.zero_le _⟩ ?_
      refine lv_if_eq (tgt := 23) hx hb dX1_countOf_16 (by decide) (fun c_2 => ?_) (fun c_2 => ?_)
      · refine lv_iconst (v := nI 0) hx hb dX1_countOf_23 (by decide) ?_
        refine lv_iadd hx hb dX1_countOf_24 ?_
        refine lv_is (nI_add _ _) ?_
        refine lv_istore_n (lv' := [(2, .int (nI ((mo_cnt S M j i) + 0))), (0, .ref y), (1, .int (nI j)), (3, .int (nI i))]) hx hb dX1_countOf_25 rfl hl (by decide) rfl (fun ls hl => ?_)
        refine lv_iinc (v := nI (i + 1)) (lv' := [(3, .int (nI (i + 1))), (2, .int (nI ((mo_cnt S M j i) + 0))), (0, .ref y), (1, .int (nI j))]) hx hb dX1_countOf_26 hl (k := 3) rfl (nI_1 _) (by decide) rfl (fun ls hl => ?_)
        refine lv_goto (tgt := 4) hx hb dX1_countOf_29 (by decide) ?_
        have e1 : (mo_cnt S M j i) + 0 = mo_cnt S M j (i + 1) := by rw [mo_cnt, if_pos c_2]
        rw [e1] at hl
        exact ihi _ _ (lv_sub hl [2, 3, 1, 0] rfl) (by omega) (by omega)
      · refine lv_iconst (v := nI 1) hx hb dX1_countOf_19 (by decide) ?_
        refine lv_goto (tgt := 24) hx hb dX1_countOf_20 (by decide) ?_
        refine lv_iadd hx hb dX1_countOf_24 ?_
        refine lv_is (nI_add _ _) ?_
        refine lv_istore_n (lv' := [(2, .int (nI ((mo_cnt S M j i) + 1))), (0, .ref y), (1, .int (nI j)), (3, .int (nI i))]) hx hb dX1_countOf_25 rfl hl (by decide) rfl (fun ls hl => ?_)
        refine lv_iinc (v := nI (i + 1)) (lv' := [(3, .int (nI (i + 1))), (2, .int (nI ((mo_cnt S M j i) + 1))), (0, .ref y), (1, .int (nI j))]) hx hb dX1_countOf_26 hl (k := 3) rfl (nI_1 _) (by decide) rfl (fun ls hl => ?_)
        refine lv_goto (tgt := 4) hx hb dX1_countOf_29 (by decide) ?_
        have e1 : (mo_cnt S M j i) + 1 = mo_cnt S M j (i + 1) := by rw [mo_cnt, if_neg c_2]
        rw [e1] at hl
        exact ihi _ _ (lv_sub hl [2, 3, 1, 0] rfl) (by omega) (by omega)
set_option maxHeartbeats 4000000 in
set_option maxRecDepth 100000 in
theorem k_X1_howMany (l : Launch) (dC : Nat → ClassId) (dI : Nat → Nat → Nat) (cI : ClassId) (y a b c9 d v : Nat) (th : Int32) (N : Nat → Int32) (n : Nat) (M S C V : Nat → Int32) (j : Nat) (man : Int32) (hj : j < 640) : Met l yX1_howMany wsX1_howMany ({ frames := 0, cells := 0, slots := 0, locals := 0 } : Room) (rd (dC, dI) (wM cI y a b c9 d v th N n M S C V) (tM cI) [.ref y, .int (nI j), .int man]) (QcRead (nI (mo_hm M j man 64))) 0 0 nofree := by
  refine Met.ofW (cc := cX1_howMany) (maxL := 5) (ret := (some .int)) (by decide) rfl ?_
  intro p e s m args below meth c s₁ B hml hv
  obtain ⟨rfl, hP, hK⟩ := hv
  have hx := B.exec
  have hb := B.bytes
  have hr := B.returns
  have hts := atoms_spec (ws := wsX1_howMany) B.pre
  have hown : s.vm.findClass RX1 = some m.cls := findClass_of_methodNamed B.named
  have hlocks := B.notSynchronized
  have hinX1 : ∀ w ∈ u_ws RX1 TX1 7, w ∈ wsX1_howMany := by decide +kernel
  have hf14 := hts (.fieldLink RX1 14 "GameArbiterModel" "men" "[I") (by decide +kernel)
  have hl := lv_entry ([.ref y, .int (nI j), .int man]) (n := 5) (Nat.le_of_ble_eq_true rfl)
  rw [lg_entry_eq]
  generalize (lg_sl ([.ref y, .int (nI j), .int man]) ++ List.replicate (5 - (lg_sl ([.ref y, .int (nI j), .int man])).length) Slot.unset).toArray = ls at hl ⊢
  replace hl : lv_has ls 5 [(0, .ref y), (1, .int (nI j)), (2, .int man)] := hl
  refine lv_iconst (v := nI 0) hx hb dX1_howMany_0 (by decide) ?_
  refine lv_istore_n (lv' := [(3, .int (nI 0)), (0, .ref y), (1, .int (nI j)), (2, .int man)]) hx hb dX1_howMany_1 rfl hl (by decide) rfl (fun ls hl => ?_)
  refine lv_iconst (v := nI 0) hx hb dX1_howMany_2 (by decide) ?_
  refine lv_istore (lv' := [(4, .int (nI 0)), (3, .int (nI 0)), (0, .ref y), (1, .int (nI j)), (2, .int man)]) hx hb dX1_howMany_3 hl (by decide) rfl (fun ls hl => ?_)
  obtain ⟨i, hi0⟩ : ∃ i : Nat, i = 0 := ⟨0, rfl⟩
  replace hl := lv_sub hl [2, 3, 4, 1, 0] rfl
  replace hl : lv_has ls 5 [(0, .ref y), (1, .int (nI j)), (2, .int man), (3, .int (nI (mo_hm M j man i))), (4, .int (nI i))] := by rw [hi0]; exact hl
  have hib : i ≤ 64 := by omega
  clear hi0
  obtain ⟨zi, hzi⟩ : ∃ z : Nat, 64 < i + z := ⟨64 + 1, by omega⟩
  induction zi generalizing i ls with
  | zero => exact absurd hzi (by omega)
  | succ zi ihi =>
    refine lv_iload hx hb dX1_howMany_5 (lv_at hl 4 rfl) ?_
    refine lv_bipush (v := nI 64) hx hb dX1_howMany_7 (by decide) ?_
    refine lv_icmp_ge (tgt := 42) hx hb dX1_howMany_9 (by decide) (fun c_1 => ?_) (fun c_1 => ?_)
    · have c_1 : 64 ≤ i := (nI_leI (show 64 < 2 ^ 31 by omega) (show i < 2 ^ 31 by omega)).mp c_1
      refine lv_iload_n hx hb dX1_howMany_42 rfl (lv_at hl 3 rfl) ?_
      exact rd_ret hx hb hr hlocks (by rw [show i = 64 by omega]) dX1_howMany_43
    · have c_1 : ¬ (64 ≤ i) := fun h => c_1 ((nI_leI (show 64 < 2 ^ 31 by omega) (show i < 2 ^ 31 by omega)).mpr h)
      refine lv_iload_n hx hb dX1_howMany_12 rfl (lv_at hl 3 rfl) ?_
      refine lv_aload_n hx hb dX1_howMany_13 rfl (lv_at hl 0 rfl) ?_
      refine va_get (D := (dC, dI)) (ci := 1) (v := .ref b) (C := RX1) (T := TX1) (N := 7) hx hb hts hinX1 hown hK hP 0 rfl rfl 3 (by decide) hf14 (fun _ h9 => h9) rfl dX1_howMany_14 ?_
      refine lv_bipush (v := nI 64) hx hb dX1_howMany_17 (by decide) ?_
      refine lv_iload_n hx hb dX1_howMany_19 rfl (lv_at hl 1 rfl) ?_
      refine lv_imul hx hb dX1_howMany_20 ?_
      refine lv_is (pk_mul _ _) ?_
      refine lv_iload hx hb dX1_howMany_21 (lv_at hl 4 rfl) ?_
      refine lv_iadd hx hb dX1_howMany_23 ?_
      refine lv_is (nI_add _ _) ?_
      refine ix_iald hx hb hK hP 2 0 rfl rfl (show (64 * j) + i < 40960 by omega) (by decide) dX1_howMany_24 ?_
      refine lv_iload_n hx hb dX1_howMany_25 rfl (lv_at hl 2 rfl) ?_
      refine lv_icmp_ne (tgt := 33) hx hb dX1_howMany_26 (by decide) (fun c_2 => ?_) (fun c_2 => ?_)
      · refine lv_iconst (v := nI 0) hx hb dX1_howMany_33 (by decide) ?_
        refine lv_iadd hx hb dX1_howMany_34 ?_
        refine lv_is (nI_add _ _) ?_
        refine lv_istore_n (lv' := [(3, .int (nI ((mo_hm M j man i) + 0))), (0, .ref y), (1, .int (nI j)), (2, .int man), (4, .int (nI i))]) hx hb dX1_howMany_35 rfl hl (by decide) rfl (fun ls hl => ?_)
        refine lv_iinc (v := nI (i + 1)) (lv' := [(4, .int (nI (i + 1))), (3, .int (nI ((mo_hm M j man i) + 0))), (0, .ref y), (1, .int (nI j)), (2, .int man)]) hx hb dX1_howMany_36 hl (k := 4) rfl (nI_1 _) (by decide) rfl (fun ls hl => ?_)
        refine lv_goto (tgt := 5) hx hb dX1_howMany_39 (by decide) ?_
        have e1 : (mo_hm M j man i) + 0 = mo_hm M j man (i + 1) := by rw [mo_hm, if_neg c_2]
        rw [e1] at hl
        exact ihi _ _ (lv_sub hl [2, 3, 4, 1, 0] rfl) (by omega) (by omega)
      · refine lv_iconst (v := nI 1) hx hb dX1_howMany_29 (by decide) ?_
        refine lv_goto (tgt := 34) hx hb dX1_howMany_30 (by decide) ?_
        refine lv_iadd hx hb dX1_howMany_34 ?_
        refine lv_is (nI_add _ _) ?_
        refine lv_istore_n (lv' := [(3, .int (nI ((mo_hm M j man i) + 1))), (0, .ref y), (1, .int (nI j)), (2, .int man), (4, .int (nI i))]) hx hb dX1_howMany_35 rfl hl (by decide) rfl (fun ls hl => ?_)
        refine lv_iinc (v := nI (i + 1)) (lv' := [(4, .int (nI (i + 1))), (3, .int (nI ((mo_hm M j man i) + 1))), (0, .ref y), (1, .int (nI j)), (2, .int man)]) hx hb dX1_howMany_36 hl (k := 4) rfl (nI_1 _) (by decide) rfl (fun ls hl => ?_)
        refine lv_goto (tgt := 5) hx hb dX1_howMany_39 (by decide) ?_
        have e1 : (mo_hm M j man i) + 1 = mo_hm M j man (i + 1) := by rw [mo_hm, if_pos c_2]
        rw [e1] at hl
        exact ihi _ _ (lv_sub hl [2, 3, 4, 1, 0] rfl) (by omega) (by omega)
set_option maxHeartbeats 4000000 in
set_option maxRecDepth 100000 in
theorem k_X1_colour (l : Launch) (dC : Nat → ClassId) (dI : Nat → Nat → Nat) (cI : ClassId) (y a b c9 d v : Nat) (th : Int32) (N : Nat → Int32) (n : Nat) (M S C V : Nat → Int32) (j : Nat) (man : Int32) (hj : j < 640) : Met l yX1_colour wsX1_colour ({ frames := 0, cells := 0, slots := 0, locals := 0 } : Room) (rd (dC, dI) (wM cI y a b c9 d v th N n M S C V) (tM cI) [.ref y, .int (nI j), .int man]) (QcRead (nI (mo_co M j man 64))) 0 0 nofree := by
  refine Met.ofW (cc := cX1_colour) (maxL := 5) (ret := (some .int)) (by decide) rfl ?_
  intro p e s m args below meth c s₁ B hml hv
  obtain ⟨rfl, hP, hK⟩ := hv
  have hx := B.exec
  have hb := B.bytes
  have hr := B.returns
  have hts := atoms_spec (ws := wsX1_colour) B.pre
  have hown : s.vm.findClass RX1 = some m.cls := findClass_of_methodNamed B.named
  have hlocks := B.notSynchronized
  have hinX1 : ∀ w ∈ u_ws RX1 TX1 7, w ∈ wsX1_colour := by decide +kernel
  have hf14 := hts (.fieldLink RX1 14 "GameArbiterModel" "men" "[I") (by decide +kernel)
  have hl := lv_entry ([.ref y, .int (nI j), .int man]) (n := 5) (Nat.le_of_ble_eq_true rfl)
  rw [lg_entry_eq]
  generalize (lg_sl ([.ref y, .int (nI j), .int man]) ++ List.replicate (5 - (lg_sl ([.ref y, .int (nI j), .int man])).length) Slot.unset).toArray = ls at hl ⊢
  replace hl : lv_has ls 5 [(0, .ref y), (1, .int (nI j)), (2, .int man)] := hl
  refine lv_iconst (v := nI 0) hx hb dX1_colour_0 (by decide) ?_
  refine lv_istore_n (lv' := [(3, .int (nI 0)), (0, .ref y), (1, .int (nI j)), (2, .int man)]) hx hb dX1_colour_1 rfl hl (by decide) rfl (fun ls hl => ?_)
  refine lv_iconst (v := nI 0) hx hb dX1_colour_2 (by decide) ?_
  refine lv_istore (lv' := [(4, .int (nI 0)), (3, .int (nI 0)), (0, .ref y), (1, .int (nI j)), (2, .int man)]) hx hb dX1_colour_3 hl (by decide) rfl (fun ls hl => ?_)
  obtain ⟨i, hi0⟩ : ∃ i : Nat, i = 0 := ⟨0, rfl⟩
  replace hl := lv_sub hl [2, 3, 4, 1, 0] rfl
  replace hl : lv_has ls 5 [(0, .ref y), (1, .int (nI j)), (2, .int man), (3, .int (nI (mo_co M j man i))), (4, .int (nI i))] := by rw [hi0]; exact hl
  have hib : i ≤ 64 := by omega
  clear hi0
  obtain ⟨zi, hzi⟩ : ∃ z : Nat, 64 < i + z := ⟨64 + 1, by omega⟩
  induction zi generalizing i ls with
  | zero => exact absurd hzi (by omega)
  | succ zi ihi =>
    refine lv_iload hx hb dX1_colour_5 (lv_at hl 4 rfl) ?_
    refine lv_bipush (v := nI 64) hx hb dX1_colour_7 (by decide) ?_
    refine lv_icmp_ge (tgt := 52) hx hb dX1_colour_9 (by decide) (fun c_1 => ?_) (fun c_1 => ?_)
    · have c_1 : 64 ≤ i := (nI_leI (show 64 < 2 ^ 31 by omega) (show i < 2 ^ 31 by omega)).mp c_1
      refine lv_iload_n hx hb dX1_colour_52 rfl (lv_at hl 3 rfl) ?_
      exact rd_ret hx hb hr hlocks (by rw [show i = 64 by omega]) dX1_colour_53
    · have c_1 : ¬ (64 ≤ i) := fun h => c_1 ((nI_leI (show 64 < 2 ^ 31 by omega) (show i < 2 ^ 31 by omega)).mpr h)
      refine lv_aload_n hx hb dX1_colour_12 rfl (lv_at hl 0 rfl) ?_
      refine va_get (D := (dC, dI)) (ci := 1) (v := .ref b) (C := RX1) (T := TX1) (N := 7) hx hb hts hinX1 hown hK hP 0 rfl rfl 3 (by decide) hf14 (fun _ h9 => h9) rfl dX1_colour_13 ?_
      refine lv_bipush (v := nI 64) hx hb dX1_colour_16 (by decide) ?_
      refine lv_iload_n hx hb dX1_colour_18 rfl (lv_at hl 1 rfl) ?_
      refine lv_imul hx hb dX1_colour_19 ?_
      refine lv_is (pk_mul _ _) ?_
      refine lv_iload hx hb dX1_colour_20 (lv_at hl 4 rfl) ?_
      refine lv_iadd hx hb dX1_colour_22 ?_
      refine lv_is (nI_add _ _) ?_
      refine ix_iald hx hb hK hP 2 0 rfl rfl (show (64 * j) + i < 40960 by omega) (by decide) dX1_colour_23 ?_
      refine lv_iload_n hx hb dX1_colour_24 rfl (lv_at hl 2 rfl) ?_
      refine lv_icmp_ne (tgt := 44) hx hb dX1_colour_25 (by decide) (fun c_2 => ?_) (fun c_2 => ?_)
      · refine lv_iload_n hx hb dX1_colour_44 rfl (lv_at hl 3 rfl) ?_
        refine lv_istore_n (lv' := [(3, .int (nI (mo_co M j man i))), (0, .ref y), (1, .int (nI j)), (2, .int man), (4, .int (nI i))]) hx hb dX1_colour_45 rfl hl (by decide) rfl (fun ls hl => ?_)
        refine lv_iinc (v := nI (i + 1)) (lv' := [(4, .int (nI (i + 1))), (3, .int (nI (mo_co M j man i))), (0, .ref y), (1, .int (nI j)), (2, .int man)]) hx hb dX1_colour_46 hl (k := 4) rfl (nI_1 _) (by decide) rfl (fun ls hl => ?_)
        refine lv_goto (tgt := 5) hx hb dX1_colour_49 (by decide) ?_
        have e1 : mo_co M j man i = mo_co M j man (i + 1) := by rw [mo_co, if_neg c_2]
        rw [e1] at hl
        exact ihi _ _ (lv_sub hl [2, 3, 4, 1, 0] rfl) (by omega) (by omega)
      · refine lv_iload hx hb dX1_colour_28 (lv_at hl 4 rfl) ?_
        refine lv_bipush (v := nI 8) hx hb dX1_colour_30 (by decide) ?_
        refine lv_irem hx hb dX1_colour_32 (by decide) ?_
        refine lv_is (pk_rem (by omega) (by omega) (by omega)) ?_
        refine lv_iload hx hb dX1_colour_33 (lv_at hl 4 rfl) ?_
        refine lv_bipush (v := nI 8) hx hb dX1_colour_35 (by decide) ?_
        refine lv_idiv hx hb dX1_colour_37 (by decide) ?_
        refine lv_is (pk_div (by omega) (by omega) (by omega)) ?_
        refine lv_iadd hx hb dX1_colour_38 ?_
        refine lv_is (nI_add _ _) ?_
        refine lv_iconst (v := nI 2) hx hb dX1_colour_39 (by decide) ?_
        refine lv_irem hx hb dX1_colour_40 (by decide) ?_
        refine lv_is (pk_rem (by omega) (by omega) (by omega)) ?_
        refine lv_goto (tgt := 45) hx hb dX1_colour_41 (by decide) ?_
        refine lv_istore_n (lv' := [(3, .int (nI (((i % 8) + (i / 8)) % 2))), (0, .ref y), (1, .int (nI j)), (2, .int man), (4, .int (nI i))]) hx hb dX1_colour_45 rfl hl (by decide) rfl (fun ls hl => ?_)
        refine lv_iinc (v := nI (i + 1)) (lv' := [(4, .int (nI (i + 1))), (3, .int (nI (((i % 8) + (i / 8)) % 2))), (0, .ref y), (1, .int (nI j)), (2, .int man)]) hx hb dX1_colour_46 hl (k := 4) rfl (nI_1 _) (by decide) rfl (fun ls hl => ?_)
        refine lv_goto (tgt := 5) hx hb dX1_colour_49 (by decide) ?_
        have e1 : ((i % 8) + (i / 8)) % 2 = mo_co M j man (i + 1) := by rw [mo_co, if_pos c_2]
        rw [e1] at hl
        exact ihi _ _ (lv_sub hl [2, 3, 4, 1, 0] rfl) (by omega) (by omega)
set_option maxHeartbeats 4000000 in
set_option maxRecDepth 100000 in
theorem k_X1_isDead (l : Launch) (dC : Nat → ClassId) (dI : Nat → Nat → Nat) (cI : ClassId) (y a b c9 d v : Nat) (th : Int32) (N : Nat → Int32) (n : Nat) (M S C V : Nat → Int32) (j : Nat) (hj : j < 640) : Met l yX1_isDead wsX1_isDead ({ frames := 1, cells := 0, slots := 0, locals := 24 } : Room) (rd (dC, dI) (wM cI y a b c9 d v th N n M S C V) (tM cI) [.ref y, .int (nI j)]) (QcRead (mo_dead M j)) 0 0 nofree := by
  refine Met.ofW (cc := cX1_isDead) (maxL := 6) (ret := (some .boolean)) (by decide) rfl ?_
  intro p e s m args below meth c s₁ B hml hv
  obtain ⟨rfl, hP, hK⟩ := hv
  have hx := B.exec
  have hb := B.bytes
  have hr := B.returns
  have hts := atoms_spec (ws := wsX1_isDead) B.pre
  have hown : s.vm.findClass RX1 = some m.cls := findClass_of_methodNamed B.named
  have hlocks := B.notSynchronized
  have hinX1 : ∀ w ∈ u_ws RX1 TX1 7, w ∈ wsX1_isDead := by decide +kernel
  have hl := lv_entry ([.ref y, .int (nI j)]) (n := 6) (Nat.le_of_ble_eq_true rfl)
  rw [lg_entry_eq]
  generalize (lg_sl ([.ref y, .int (nI j)]) ++ List.replicate (6 - (lg_sl ([.ref y, .int (nI j)])).length) Slot.unset).toArray = ls at hl ⊢
  replace hl : lv_has ls 6 [(0, .ref y), (1, .int (nI j))] := hl
  refine lv_aload_n hx hb dX1_isDead_0 rfl (lv_at hl 0 rfl) ?_
  refine lv_iload_n hx hb dX1_isDead_1 rfl (lv_at hl 1 rfl) ?_
  refine lv_bipush (v := nI 6) hx hb dX1_isDead_2 (by decide) ?_
  have hcnnI6 := mo_hm_le M j (nI 6) 64
  refine rd_callV (rest := []) ⟨hx, hb, hml, hown, hts⟩ (k_X1_howMany l dC dI cI y a b c9 d v th N n M S C V j (nI 6) (by omega)) (cwV 2 hts gX1_isDead_X1_howMany rfl rfl rfl (by decide +kernel) ⟨Nat.le_of_ble_eq_true rfl, Nat.le_of_ble_eq_true rfl⟩) hK hP rfl (q0 := 0) rfl rfl hl.1 rfl (Nat.le_of_ble_eq_true rfl) dX1_isDead_4 ⟨Nat.zero_le _, Nat.zero_le _⟩ ?_
  refine lv_iconst (v := nI 1) hx hb dX1_isDead_7 (by decide) ?_
  refine lv_icmp_ne (tgt := 22) hx hb dX1_isDead_8 (by decide) (fun c_1 => ?_) (fun c_1 => ?_)
  · have c_1 : ¬ ((mo_hm M j (nI 6) 64) = 1) := fun h => c_1 ((nI_eq (show mo_hm M j (nI 6) 64 < 2 ^ 31 by omega) (show 1 < 2 ^ 31 by omega)).mpr h)
    refine lv_iconst (v := nI 0) hx hb dX1_isDead_22 (by decide) ?_
    exact rd_retz hx hb hr hlocks rfl (by rw [mo_dead, if_neg c_1]) dX1_isDead_23
  · have c_1 : (mo_hm M j (nI 6) 64) = 1 := (nI_eq (show mo_hm M j (nI 6) 64 < 2 ^ 31 by omega) (show 1 < 2 ^ 31 by omega)).mp c_1
    refine lv_aload_n hx hb dX1_isDead_11 rfl (lv_at hl 0 rfl) ?_
    refine lv_iload_n hx hb dX1_isDead_12 rfl (lv_at hl 1 rfl) ?_
    refine lv_bipush (v := nI 12) hx hb dX1_isDead_13 (by decide) ?_
    have hcnnI12 := mo_hm_le M j (nI 12) 64
    refine rd_callV (rest := []) ⟨hx, hb, hml, hown, hts⟩ (k_X1_howMany l dC dI cI y a b c9 d v th N n M S C V j (nI 12) (by omega)) (cwV 2 hts gX1_isDead_X1_howMany rfl rfl rfl (by decide +kernel) ⟨Nat.le_of_ble_eq_true rfl, Nat.le_of_ble_eq_true rfl⟩) hK hP rfl (q0 := 0) rfl rfl hl.1 rfl (Nat.le_of_ble_eq_true rfl) dX1_isDead_15 ⟨Nat.zero_le _, Nat.zero_le _⟩ ?_
    refine lv_iconst (v := nI 1) hx hb dX1_isDead_18 (by decide) ?_
    refine lv_icmp_eq (tgt := 24) hx hb dX1_isDead_19 (by decide) (fun c_2 => ?_) (fun c_2 => ?_)
    · have c_2 : (mo_hm M j (nI 12) 64) = 1 := (nI_eq (show mo_hm M j (nI 12) 64 < 2 ^ 31 by omega) (show 1 < 2 ^ 31 by omega)).mp c_2
      refine lv_bipush (v := nI 64) hx hb dX1_isDead_24 (by decide) ?_
      refine lv_aload_n hx hb dX1_isDead_26 rfl (lv_at hl 0 rfl) ?_
      refine lv_iload_n hx hb dX1_isDead_27 rfl (lv_at hl 1 rfl) ?_
      refine lv_iconst (v := nI 0) hx hb dX1_isDead_28 (by decide) ?_
      have hcnnI0 := mo_hm_le M j (nI 0) 64
      refine rd_callV (rest := [.int (nI 64)]) ⟨hx, hb, hml, hown, hts⟩ (k_X1_howMany l dC dI cI y a b c9 d v th N n M S C V j (nI 0) (by omega)) (cwV 2 hts gX1_isDead_X1_howMany rfl rfl rfl (by decide +kernel) ⟨Nat.le_of_ble_eq_true rfl, Nat.le_of_ble_eq_true rfl⟩) hK hP rfl (q0 := 0) rfl rfl hl.1 rfl (Nat.le_of_ble_eq_true rfl) dX1_isDead_29 ⟨Nat.zero_le _, Nat.zero_le _⟩ ?_
      refine lv_isub hx hb dX1_isDead_32 ?_
      refine lv_is (pk_sub (by omega)) ?_
      refine lv_istore_n (lv' := [(2, .int (nI (64 - (mo_hm M j (nI 0) 64)))), (0, .ref y), (1, .int (nI j))]) hx hb dX1_isDead_33 rfl hl (by decide) rfl (fun ls hl => ?_)
      refine lv_aload_n hx hb dX1_isDead_34 rfl (lv_at hl 1 rfl) ?_
      refine lv_iload_n hx hb dX1_isDead_35 rfl (lv_at hl 2 rfl) ?_
      refine lv_iconst (v := nI 2) hx hb dX1_isDead_36 (by decide) ?_
      have hcnnI2 := mo_hm_le M j (nI 2) 64
      refine rd_callV (rest := []) ⟨hx, hb, hml, hown, hts⟩ (k_X1_howMany l dC dI cI y a b c9 d v th N n M S C V j (nI 2) (by omega)) (cwV 2 hts gX1_isDead_X1_howMany rfl rfl rfl (by decide +kernel) ⟨Nat.le_of_ble_eq_true rfl, Nat.le_of_ble_eq_true rfl⟩) hK hP rfl (q0 := 0) rfl rfl hl.1 rfl (Nat.le_of_ble_eq_true rfl) dX1_isDead_37 ⟨Nat.zero_le _, Nat.zero_le _⟩ ?_
      refine lv_aload_n hx hb dX1_isDead_40 rfl (lv_at hl 1 rfl) ?_
      refine lv_iload_n hx hb dX1_isDead_41 rfl (lv_at hl 2 rfl) ?_
      refine lv_bipush (v := nI 8) hx hb dX1_isDead_42 (by decide) ?_
      have hcnnI8 := mo_hm_le M j (nI 8) 64
      refine rd_callV (rest := [.int (nI (mo_hm M j (nI 2) 64))]) ⟨hx, hb, hml, hown, hts⟩ (k_X1_howMany l dC dI cI y a b c9 d v th N n M S C V j (nI 8) (by omega)) (cwV 2 hts gX1_isDead_X1_howMany rfl rfl rfl (by decide +kernel) ⟨Nat.le_of_ble_eq_true rfl, Nat.le_of_ble_eq_true rfl⟩) hK hP rfl (q0 := 0) rfl rfl hl.1 rfl (Nat.le_of_ble_eq_true rfl) dX1_isDead_44 ⟨Nat.zero_le _, Nat.zero_le _⟩ ?_
      refine lv_iadd hx hb dX1_isDead_47 ?_
      refine lv_is (nI_add _ _) ?_
      refine lv_istore_n (lv' := [(3, .int (nI ((mo_hm M j (nI 2) 64) + (mo_hm M j (nI 8) 64)))), (2, .int (nI (64 - (mo_hm M j (nI 0) 64)))), (0, .ref y), (1, .int (nI j))]) hx hb dX1_isDead_48 rfl hl (by decide) rfl (fun ls hl => ?_)
      refine lv_aload_n hx hb dX1_isDead_49 rfl (lv_at hl 2 rfl) ?_
      refine lv_iload_n hx hb dX1_isDead_50 rfl (lv_at hl 3 rfl) ?_
      refine lv_iconst (v := nI 3) hx hb dX1_isDead_51 (by decide) ?_
      have hcnnI3 := mo_hm_le M j (nI 3) 64
      refine rd_callV (rest := []) ⟨hx, hb, hml, hown, hts⟩ (k_X1_howMany l dC dI cI y a b c9 d v th N n M S C V j (nI 3) (by omega)) (cwV 2 hts gX1_isDead_X1_howMany rfl rfl rfl (by decide +kernel) ⟨Nat.le_of_ble_eq_true rfl, Nat.le_of_ble_eq_true rfl⟩) hK hP rfl (q0 := 0) rfl rfl hl.1 rfl (Nat.le_of_ble_eq_true rfl) dX1_isDead_52 ⟨Nat.zero_le _, Nat.zero_le _⟩ ?_
      refine lv_istore (lv' := [(4, .int (nI (mo_hm M j (nI 3) 64))), (3, .int (nI ((mo_hm M j (nI 2) 64) + (mo_hm M j (nI 8) 64)))), (2, .int (nI (64 - (mo_hm M j (nI 0) 64)))), (0, .ref y), (1, .int (nI j))]) hx hb dX1_isDead_55 hl (by decide) rfl (fun ls hl => ?_)
      refine lv_aload_n hx hb dX1_isDead_57 rfl (lv_at hl 3 rfl) ?_
      refine lv_iload_n hx hb dX1_isDead_58 rfl (lv_at hl 4 rfl) ?_
      refine lv_bipush (v := nI 9) hx hb dX1_isDead_59 (by decide) ?_
      have hcnnI9 := mo_hm_le M j (nI 9) 64
      refine rd_callV (rest := []) ⟨hx, hb, hml, hown, hts⟩ (k_X1_howMany l dC dI cI y a b c9 d v th N n M S C V j (nI 9) (by omega)) (cwV 2 hts gX1_isDead_X1_howMany rfl rfl rfl (by decide +kernel) ⟨Nat.le_of_ble_eq_true rfl, Nat.le_of_ble_eq_true rfl⟩) hK hP rfl (q0 := 0) rfl rfl hl.1 rfl (Nat.le_of_ble_eq_true rfl) dX1_isDead_61 ⟨Nat.zero_le _, Nat.zero_le _⟩ ?_
      refine lv_istore (lv' := [(5, .int (nI (mo_hm M j (nI 9) 64))), (4, .int (nI (mo_hm M j (nI 3) 64))), (3, .int (nI ((mo_hm M j (nI 2) 64) + (mo_hm M j (nI 8) 64)))), (2, .int (nI (64 - (mo_hm M j (nI 0) 64)))), (0, .ref y), (1, .int (nI j))]) hx hb dX1_isDead_64 hl (by decide) rfl (fun ls hl => ?_)
      refine lv_iload_n hx hb dX1_isDead_66 rfl (lv_at hl 3 rfl) ?_
      refine lv_iconst (v := nI 4) hx hb dX1_isDead_67 (by decide) ?_
      refine lv_icmp_ge (tgt := 93) hx hb dX1_isDead_68 (by decide) (fun c_3 => ?_) (fun c_3 => ?_)
      · have c_3 : 4 ≤ (64 - (mo_hm M j (nI 0) 64)) := (nI_leI (show 4 < 2 ^ 31 by omega) (show 64 - (mo_hm M j (nI 0) 64) < 2 ^ 31 by omega)).mp c_3
        refine lv_iload_n hx hb dX1_isDead_93 rfl (lv_at hl 3 rfl) ?_
        refine lv_iconst (v := nI 4) hx hb dX1_isDead_94 (by decide) ?_
        refine lv_icmp_ne (tgt := 130) hx hb dX1_isDead_95 (by decide) (fun c_4 => ?_) (fun c_4 => ?_)
        · have c_4 : ¬ ((64 - (mo_hm M j (nI 0) 64)) = 4) := fun h => c_4 ((nI_eq (show 64 - (mo_hm M j (nI 0) 64) < 2 ^ 31 by omega) (show 4 < 2 ^ 31 by omega)).mpr h)
          refine lv_iconst (v := nI 0) hx hb dX1_isDead_130 (by decide) ?_
          exact rd_retz hx hb hr hlocks rfl (by rw [mo_dead, if_pos c_1, if_pos c_2, if_pos c_3, if_neg c_4]) dX1_isDead_131
        · have c_4 : (64 - (mo_hm M j (nI 0) 64)) = 4 := (nI_eq (show 64 - (mo_hm M j (nI 0) 64) < 2 ^ 31 by omega) (show 4 < 2 ^ 31 by omega)).mp c_4
          refine lv_iload hx hb dX1_isDead_98 (lv_at hl 1 rfl) ?_
          refine lv_iconst (v := nI 1) hx hb dX1_isDead_100 (by decide) ?_
          refine lv_icmp_ne (tgt := 130) hx hb dX1_isDead_101 (by decide) (fun c_5 => ?_) (fun c_5 => ?_)
          · have c_5 : ¬ ((mo_hm M j (nI 3) 64) = 1) := fun h => c_5 ((nI_eq (show mo_hm M j (nI 3) 64 < 2 ^ 31 by omega) (show 1 < 2 ^ 31 by omega)).mpr h)
            refine lv_iconst (v := nI 0) hx hb dX1_isDead_130 (by decide) ?_
            exact rd_retz hx hb hr hlocks rfl (by rw [mo_dead, if_pos c_1, if_pos c_2, if_pos c_3, if_pos c_4, if_neg c_5]) dX1_isDead_131
          · have c_5 : (mo_hm M j (nI 3) 64) = 1 := (nI_eq (show mo_hm M j (nI 3) 64 < 2 ^ 31 by omega) (show 1 < 2 ^ 31 by omega)).mp c_5
            refine lv_iload hx hb dX1_isDead_104 (lv_at hl 0 rfl) ?_
            refine lv_iconst (v := nI 1) hx hb dX1_isDead_106 (by decide) ?_
            refine lv_icmp_ne (tgt := 130) hx hb dX1_isDead_107 (by decide) (fun c_6 => ?_) (fun c_6 => ?_)
            · have c_6 : ¬ ((mo_hm M j (nI 9) 64) = 1) := fun h => c_6 ((nI_eq (show mo_hm M j (nI 9) 64 < 2 ^ 31 by omega) (show 1 < 2 ^ 31 by omega)).mpr h)
              refine lv_iconst (v := nI 0) hx hb dX1_isDead_130 (by decide) ?_
              exact rd_retz hx hb hr hlocks rfl (by rw [mo_dead, if_pos c_1, if_pos c_2, if_pos c_3, if_pos c_4, if_pos c_5, if_neg c_6]) dX1_isDead_131
            · have c_6 : (mo_hm M j (nI 9) 64) = 1 := (nI_eq (show mo_hm M j (nI 9) 64 < 2 ^ 31 by omega) (show 1 < 2 ^ 31 by omega)).mp c_6
              refine lv_aload_n hx hb dX1_isDead_110 rfl (lv_at hl 4 rfl) ?_
              refine lv_iload_n hx hb dX1_isDead_111 rfl (lv_at hl 5 rfl) ?_
              refine lv_iconst (v := nI 3) hx hb dX1_isDead_112 (by decide) ?_
              have hconI3 := mo_co_lt M j (nI 3) 64
              refine rd_callV (rest := []) ⟨hx, hb, hml, hown, hts⟩ (k_X1_colour l dC dI cI y a b c9 d v th N n M S C V j (nI 3) (by omega)) (cwV 2 hts gX1_isDead_X1_colour rfl rfl rfl (by decide +kernel) ⟨Nat.le_of_ble_eq_true rfl, Nat.le_of_ble_eq_true rfl⟩) hK hP rfl (q0 := 0) rfl rfl hl.1 rfl (Nat.le_of_ble_eq_true rfl) dX1_isDead_113 ⟨Nat.zero_le _, Nat.zero_le _⟩ ?_
              refine lv_aload_n hx hb dX1_isDead_116 rfl (lv_at hl 4 rfl) ?_
              refine lv_iload_n hx hb dX1_isDead_117 rfl (lv_at hl 5 rfl) ?_
              refine lv_bipush (v := nI 9) hx hb dX1_isDead_118 (by decide) ?_
              have hconI9 := mo_co_lt M j (nI 9) 64
              refine rd_callV (rest := [.int (nI (mo_co M j (nI 3) 64))]) ⟨hx, hb, hml, hown, hts⟩ (k_X1_colour l dC dI cI y a b c9 d v th N n M S C V j (nI 9) (by omega)) (cwV 2 hts gX1_isDead_X1_colour rfl rfl rfl (by decide +kernel) ⟨Nat.le_of_ble_eq_true rfl, Nat.le_of_ble_eq_true rfl⟩) hK hP rfl (q0 := 0) rfl rfl hl.1 rfl (Nat.le_of_ble_eq_true rfl) dX1_isDead_120 ⟨Nat.zero_le _, Nat.zero_le _⟩ ?_
              refine lv_icmp_ne (tgt := 130) hx hb dX1_isDead_123 (by decide) (fun c_7 => ?_) (fun c_7 => ?_)
              · have c_7 : ¬ ((mo_co M j (nI 3) 64) = (mo_co M j (nI 9) 64)) := fun h => c_7 ((nI_eq (show mo_co M j (nI 3) 64 < 2 ^ 31 by omega) (show mo_co M j (nI 9) 64 < 2 ^ 31 by omega)).mpr h)
                refine lv_iconst (v := nI 0) hx hb dX1_isDead_130 (by decide) ?_
                exact rd_retz hx hb hr hlocks rfl (by rw [mo_dead, if_pos c_1, if_pos c_2, if_pos c_3, if_pos c_4, if_pos c_5, if_pos c_6, if_neg c_7]) dX1_isDead_131
              · have c_7 : (mo_co M j (nI 3) 64) = (mo_co M j (nI 9) 64) := (nI_eq (show mo_co M j (nI 3) 64 < 2 ^ 31 by omega) (show mo_co M j (nI 9) 64 < 2 ^ 31 by omega)).mp c_7
                refine lv_iconst (v := nI 1) hx hb dX1_isDead_126 (by decide) ?_
                refine lv_goto (tgt := 131) hx hb dX1_isDead_127 (by decide) ?_
                exact rd_retz hx hb hr hlocks rfl (by rw [mo_dead, if_pos c_1, if_pos c_2, if_pos c_3, if_pos c_4, if_pos c_5, if_pos c_6, if_pos c_7]) dX1_isDead_131
      · have c_3 : ¬ (4 ≤ (64 - (mo_hm M j (nI 0) 64))) := fun h => c_3 ((nI_leI (show 4 < 2 ^ 31 by omega) (show 64 - (mo_hm M j (nI 0) 64) < 2 ^ 31 by omega)).mpr h)
        refine lv_iload_n hx hb dX1_isDead_71 rfl (lv_at hl 3 rfl) ?_
        refine lv_iconst (v := nI 2) hx hb dX1_isDead_72 (by decide) ?_
        refine lv_icmp_eq (tgt := 87) hx hb dX1_isDead_73 (by decide) (fun c_8 => ?_) (fun c_8 => ?_)
        · have c_8 : (64 - (mo_hm M j (nI 0) 64)) = 2 := (nI_eq (show 64 - (mo_hm M j (nI 0) 64) < 2 ^ 31 by omega) (show 2 < 2 ^ 31 by omega)).mp c_8
          refine lv_iconst (v := nI 1) hx hb dX1_isDead_87 (by decide) ?_
          refine lv_goto (tgt := 92) hx hb dX1_isDead_88 (by decide) ?_
          exact rd_retz hx hb hr hlocks rfl (by rw [mo_dead, if_pos c_1, if_pos c_2, if_neg c_3, if_pos c_8]) dX1_isDead_92
        · have c_8 : ¬ ((64 - (mo_hm M j (nI 0) 64)) = 2) := fun h => c_8 ((nI_eq (show 64 - (mo_hm M j (nI 0) 64) < 2 ^ 31 by omega) (show 2 < 2 ^ 31 by omega)).mpr h)
          refine lv_iload_n hx hb dX1_isDead_76 rfl (lv_at hl 2 rfl) ?_
          refine lv_iload hx hb dX1_isDead_77 (lv_at hl 1 rfl) ?_
          refine lv_iadd hx hb dX1_isDead_79 ?_
          refine lv_is (nI_add _ _) ?_
          refine lv_iload hx hb dX1_isDead_80 (lv_at hl 0 rfl) ?_
          refine lv_iadd hx hb dX1_isDead_82 ?_
          refine lv_is (nI_add _ _) ?_
          refine lv_iconst (v := nI 1) hx hb dX1_isDead_83 (by decide) ?_
          refine lv_icmp_ne (tgt := 91) hx hb dX1_isDead_84 (by decide) (fun c_9 => ?_) (fun c_9 => ?_)
          · have c_9 : ¬ (((((mo_hm M j (nI 2) 64) + (mo_hm M j (nI 8) 64)) + (mo_hm M j (nI 3) 64)) + (mo_hm M j (nI 9) 64)) = 1) := fun h => c_9 ((nI_eq (show (((mo_hm M j (nI 2) 64) + (mo_hm M j (nI 8) 64)) + (mo_hm M j (nI 3) 64)) + (mo_hm M j (nI 9) 64) < 2 ^ 31 by omega) (show 1 < 2 ^ 31 by omega)).mpr h)
            refine lv_iconst (v := nI 0) hx hb dX1_isDead_91 (by decide) ?_
            exact rd_retz hx hb hr hlocks rfl (by rw [mo_dead, if_pos c_1, if_pos c_2, if_neg c_3, if_neg c_8, if_neg c_9]) dX1_isDead_92
          · have c_9 : ((((mo_hm M j (nI 2) 64) + (mo_hm M j (nI 8) 64)) + (mo_hm M j (nI 3) 64)) + (mo_hm M j (nI 9) 64)) = 1 := (nI_eq (show (((mo_hm M j (nI 2) 64) + (mo_hm M j (nI 8) 64)) + (mo_hm M j (nI 3) 64)) + (mo_hm M j (nI 9) 64) < 2 ^ 31 by omega) (show 1 < 2 ^ 31 by omega)).mp c_9
            refine lv_iconst (v := nI 1) hx hb dX1_isDead_87 (by decide) ?_
            refine lv_goto (tgt := 92) hx hb dX1_isDead_88 (by decide) ?_
            exact rd_retz hx hb hr hlocks rfl (by rw [mo_dead, if_pos c_1, if_pos c_2, if_neg c_3, if_neg c_8, if_pos c_9]) dX1_isDead_92
    · have c_2 : ¬ ((mo_hm M j (nI 12) 64) = 1) := fun h => c_2 ((nI_eq (show mo_hm M j (nI 12) 64 < 2 ^ 31 by omega) (show 1 < 2 ^ 31 by omega)).mpr h)
      refine lv_iconst (v := nI 0) hx hb dX1_isDead_22 (by decide) ?_
      exact rd_retz hx hb hr hlocks rfl (by rw [mo_dead, if_pos c_1, if_neg c_2]) dX1_isDead_23
set_option maxHeartbeats 4000000 in
set_option maxRecDepth 100000 in
theorem k_X1_verdictOf (l : Launch) (dC : Nat → ClassId) (dI : Nat → Nat → Nat) (cI : ClassId) (y a b c9 d v : Nat) (th : Int32) (N : Nat → Int32) (n : Nat) (M S C V : Nat → Int32) (j : Nat) (mv ck : Int32) (hj : j < 640) : Met l yX1_verdictOf wsX1_verdictOf ({ frames := 2, cells := 0, slots := 0, locals := 49 } : Room) (rd (dC, dI) (wM cI y a b c9 d v th N n M S C V) (tM cI) [.ref y, .int (nI j), .int mv, .int ck]) (QcRead (mo_ver S M C j mv ck)) 0 0 nofree := by
  refine Met.ofW (cc := cX1_verdictOf) (maxL := 5) (ret := (some .int)) (by decide) rfl ?_
  intro p e s m args below meth c s₁ B hml hv
  obtain ⟨rfl, hP, hK⟩ := hv
  have hx := B.exec
  have hb := B.bytes
  have hr := B.returns
  have hts := atoms_spec (ws := wsX1_verdictOf) B.pre
  have hown : s.vm.findClass RX1 = some m.cls := findClass_of_methodNamed B.named
  have hlocks := B.notSynchronized
  have hinX1 : ∀ w ∈ u_ws RX1 TX1 7, w ∈ wsX1_verdictOf := by decide +kernel
  have hf20 := hts (.fieldLink RX1 20 "GameArbiterModel" "clocks" "[I") (by decide +kernel)
  have hl := lv_entry ([.ref y, .int (nI j), .int mv, .int ck]) (n := 5) (Nat.le_of_ble_eq_true rfl)
  rw [lg_entry_eq]
  generalize (lg_sl ([.ref y, .int (nI j), .int mv, .int ck]) ++ List.replicate (5 - (lg_sl ([.ref y, .int (nI j), .int mv, .int ck])).length) Slot.unset).toArray = ls at hl ⊢
  replace hl : lv_has ls 5 [(0, .ref y), (1, .int (nI j)), (2, .int mv), (3, .int ck)] := hl
  refine lv_iload_n hx hb dX1_verdictOf_0 rfl (lv_at hl 2 rfl) ?_
  refine lv_if_ne (tgt := 14) hx hb dX1_verdictOf_1 (by decide) (fun c_1 => ?_) (fun c_1 => ?_)
  · refine lv_aload_n hx hb dX1_verdictOf_14 rfl (lv_at hl 0 rfl) ?_
    refine lv_iload_n hx hb dX1_verdictOf_15 rfl (lv_at hl 1 rfl) ?_
    have hcn := mo_cnt_le S M j (j + 1)
    refine rd_callV (rest := []) ⟨hx, hb, hml, hown, hts⟩ (k_X1_countOf l dC dI cI y a b c9 d v th N n M S C V j (by omega)) (cwV 1 hts gX1_verdictOf_X1_countOf rfl rfl rfl (by decide +kernel) ⟨Nat.le_of_ble_eq_true rfl, Nat.le_of_ble_eq_true rfl⟩) hK hP rfl (q0 := 0) rfl rfl hl.1 rfl (Nat.le_of_ble_eq_true rfl) dX1_verdictOf_16 ⟨Nat.zero_le _, Nat.zero_le _⟩ ?_
    refine lv_istore (lv' := [(4, .int (nI (mo_cnt S M j (j + 1)))), (0, .ref y), (1, .int (nI j)), (2, .int mv), (3, .int ck)]) hx hb dX1_verdictOf_19 hl (by decide) rfl (fun ls hl => ?_)
    refine lv_aload_n hx hb dX1_verdictOf_21 rfl (lv_at hl 1 rfl) ?_
    refine lv_iload_n hx hb dX1_verdictOf_22 rfl (lv_at hl 2 rfl) ?_
    refine rd_callV (rest := []) ⟨hx, hb, hml, hown, hts⟩ (k_X1_isDead l dC dI cI y a b c9 d v th N n M S C V j (by omega)) (cwV 1 hts gX1_verdictOf_X1_isDead rfl rfl rfl (by decide +kernel) ⟨Nat.le_of_ble_eq_true rfl, Nat.le_of_ble_eq_true rfl⟩) hK hP rfl (q0 := 0) rfl rfl hl.1 rfl (Nat.le_of_ble_eq_true rfl) dX1_verdictOf_23 ⟨Nat.zero_le _, Nat.zero_le _⟩ ?_
    refine lv_if_eq (tgt := 31) hx hb dX1_verdictOf_26 (by decide) (fun c_2 => ?_) (fun c_2 => ?_)
    · refine lv_iload hx hb dX1_verdictOf_31 (lv_at hl 0 rfl) ?_
      refine lv_iconst (v := nI 5) hx hb dX1_verdictOf_33 (by decide) ?_
      refine lv_icmp_lt (tgt := 39) hx hb dX1_verdictOf_34 (by decide) (fun c_3 => ?_) (fun c_3 => ?_)
      · have c_3 : (mo_cnt S M j (j + 1)) < 5 := (nI_ltI (show mo_cnt S M j (j + 1) < 2 ^ 31 by omega) (show 5 < 2 ^ 31 by omega)).mp c_3
        refine lv_aload_n hx hb dX1_verdictOf_39 rfl (lv_at hl 1 rfl) ?_
        refine va_get (D := (dC, dI)) (ci := 1) (v := .ref d) (C := RX1) (T := TX1) (N := 7) hx hb hts hinX1 hown hK hP 0 rfl rfl 5 (by decide) hf20 (fun _ h9 => h9) rfl dX1_verdictOf_40 ?_
        refine lv_iload_n hx hb dX1_verdictOf_43 rfl (lv_at hl 2 rfl) ?_
        refine ix_iald hx hb hK hP 4 0 rfl rfl (show j < 640 by omega) (by decide) dX1_verdictOf_44 ?_
        refine lv_sipush (v := nI 150) hx hb dX1_verdictOf_45 (by decide) ?_
        refine lv_icmp_lt (tgt := 53) hx hb dX1_verdictOf_48 (by decide) (fun c_4 => ?_) (fun c_4 => ?_)
        · refine lv_iload hx hb dX1_verdictOf_53 (lv_at hl 0 rfl) ?_
          refine lv_iconst (v := nI 3) hx hb dX1_verdictOf_55 (by decide) ?_
          refine lv_icmp_lt (tgt := 80) hx hb dX1_verdictOf_56 (by decide) (fun c_5 => ?_) (fun c_5 => ?_)
          · have c_5 : (mo_cnt S M j (j + 1)) < 3 := (nI_ltI (show mo_cnt S M j (j + 1) < 2 ^ 31 by omega) (show 3 < 2 ^ 31 by omega)).mp c_5
            refine lv_aload_n hx hb dX1_verdictOf_80 rfl (lv_at hl 1 rfl) ?_
            refine va_get (D := (dC, dI)) (ci := 1) (v := .ref d) (C := RX1) (T := TX1) (N := 7) hx hb hts hinX1 hown hK hP 0 rfl rfl 5 (by decide) hf20 (fun _ h9 => h9) rfl dX1_verdictOf_81 ?_
            refine lv_iload_n hx hb dX1_verdictOf_84 rfl (lv_at hl 2 rfl) ?_
            refine ix_iald hx hb hK hP 4 0 rfl rfl (show j < 640 by omega) (by decide) dX1_verdictOf_85 ?_
            refine lv_bipush (v := nI 100) hx hb dX1_verdictOf_86 (by decide) ?_
            refine lv_icmp_lt (tgt := 96) hx hb dX1_verdictOf_88 (by decide) (fun c_6 => ?_) (fun c_6 => ?_)
            · refine lv_iconst (v := nI 0) hx hb dX1_verdictOf_96 (by decide) ?_
              exact rd_ret hx hb hr hlocks (by rw [mo_ver, if_neg c_1, if_pos c_2, if_pos c_3, if_pos c_4, if_pos c_5, if_pos c_6]) dX1_verdictOf_97
            · refine lv_bipush (v := nI 7) hx hb dX1_verdictOf_91 (by decide) ?_
              refine lv_goto (tgt := 97) hx hb dX1_verdictOf_93 (by decide) ?_
              exact rd_ret hx hb hr hlocks (by rw [mo_ver, if_neg c_1, if_pos c_2, if_pos c_3, if_pos c_4, if_pos c_5, if_neg c_6]) dX1_verdictOf_97
          · have c_5 : ¬ ((mo_cnt S M j (j + 1)) < 3) := fun h => c_5 ((nI_ltI (show mo_cnt S M j (j + 1) < 2 ^ 31 by omega) (show 3 < 2 ^ 31 by omega)).mpr h)
            refine lv_aload_n hx hb dX1_verdictOf_59 rfl (lv_at hl 1 rfl) ?_
            refine va_get (D := (dC, dI)) (ci := 1) (v := .ref d) (C := RX1) (T := TX1) (N := 7) hx hb hts hinX1 hown hK hP 0 rfl rfl 5 (by decide) hf20 (fun _ h9 => h9) rfl dX1_verdictOf_60 ?_
            refine lv_iload_n hx hb dX1_verdictOf_63 rfl (lv_at hl 2 rfl) ?_
            refine ix_iald hx hb hK hP 4 0 rfl rfl (show j < 640 by omega) (by decide) dX1_verdictOf_64 ?_
            refine lv_bipush (v := nI 100) hx hb dX1_verdictOf_65 (by decide) ?_
            refine lv_icmp_lt (tgt := 75) hx hb dX1_verdictOf_67 (by decide) (fun c_7 => ?_) (fun c_7 => ?_)
            · refine lv_bipush (v := nI 6) hx hb dX1_verdictOf_75 (by decide) ?_
              refine lv_goto (tgt := 97) hx hb dX1_verdictOf_77 (by decide) ?_
              exact rd_ret hx hb hr hlocks (by rw [mo_ver, if_neg c_1, if_pos c_2, if_pos c_3, if_pos c_4, if_neg c_5, if_pos c_7]) dX1_verdictOf_97
            · refine lv_bipush (v := nI 8) hx hb dX1_verdictOf_70 (by decide) ?_
              refine lv_goto (tgt := 97) hx hb dX1_verdictOf_72 (by decide) ?_
              exact rd_ret hx hb hr hlocks (by rw [mo_ver, if_neg c_1, if_pos c_2, if_pos c_3, if_pos c_4, if_neg c_5, if_neg c_7]) dX1_verdictOf_97
        · refine lv_iconst (v := nI 5) hx hb dX1_verdictOf_51 (by decide) ?_
          exact rd_ret hx hb hr hlocks (by rw [mo_ver, if_neg c_1, if_pos c_2, if_pos c_3, if_neg c_4]) dX1_verdictOf_52
      · have c_3 : ¬ ((mo_cnt S M j (j + 1)) < 5) := fun h => c_3 ((nI_ltI (show mo_cnt S M j (j + 1) < 2 ^ 31 by omega) (show 5 < 2 ^ 31 by omega)).mpr h)
        refine lv_iconst (v := nI 4) hx hb dX1_verdictOf_37 (by decide) ?_
        exact rd_ret hx hb hr hlocks (by rw [mo_ver, if_neg c_1, if_pos c_2, if_neg c_3]) dX1_verdictOf_38
    · refine lv_iconst (v := nI 3) hx hb dX1_verdictOf_29 (by decide) ?_
      exact rd_ret hx hb hr hlocks (by rw [mo_ver, if_neg c_1, if_neg c_2]) dX1_verdictOf_30
  · refine lv_iload_n hx hb dX1_verdictOf_4 rfl (lv_at hl 3 rfl) ?_
    refine lv_if_eq (tgt := 12) hx hb dX1_verdictOf_5 (by decide) (fun c_8 => ?_) (fun c_8 => ?_)
    · refine lv_iconst (v := nI 2) hx hb dX1_verdictOf_12 (by decide) ?_
      exact rd_ret hx hb hr hlocks (by rw [mo_ver, if_pos c_1, if_pos c_8]) dX1_verdictOf_13
    · refine lv_iconst (v := nI 1) hx hb dX1_verdictOf_8 (by decide) ?_
      refine lv_goto (tgt := 13) hx hb dX1_verdictOf_9 (by decide) ?_
      exact rd_ret hx hb hr hlocks (by rw [mo_ver, if_pos c_1, if_neg c_8]) dX1_verdictOf_13
end
section
set_option maxHeartbeats 4000000 in
set_option maxRecDepth 100000 in
theorem k_X1_squares (l : Launch) (dC : Nat → ClassId) (dI : Nat → Nat → Nat) (cI : ClassId) (y a b c9 d v : Nat) (th : Int32) (N : Nat → Int32) (n : Nat) (M S C V : Nat → Int32) (q : Int32) (g : Int64) (sz : Nat)  : Met l yX1_squares wsX1_squares ({ frames := 0, cells := 0, slots := 0, locals := 0 } : Room) (wr (dC, dI) (wM cI y a b c9 d v th N n M S C V) (tM cI) sz [.ref y, .int q, .long g]) (wrQ (dC, dI) (wM cI y a b c9 d v (nI 0) (mo_sqW N q g) n M S C V) (tM cI) (va_A (wM cI y a b c9 d v th N n M S C V) sz) (fun r => r = mo_sqR q g)) 0 0 (va_A (wM cI y a b c9 d v th N n M S C V) sz) := by
  refine Met.ofW (cc := cX1_squares) (maxL := 5) (ret := (some .boolean)) (by decide) rfl ?_
  intro p e s m args below meth c s₁ B hml hv
  obtain ⟨rfl, hsz, hP, hK, hD0⟩ := hv
  have hx := B.exec
  have hb := B.bytes
  have hr := B.returns
  have hts := atoms_spec (ws := wsX1_squares) B.pre
  have hown : s.vm.findClass RX1 = some m.cls := findClass_of_methodNamed B.named
  have hlocks := B.notSynchronized
  have hinX1 : ∀ w ∈ u_ws RX1 TX1 7, w ∈ wsX1_squares := by decide +kernel
  have hf7 := hts (.fieldLink RX1 7 "GameArbiterModel" "next" "[I") (by decide +kernel)
  have hf26 := hts (.fieldLink RX1 26 "GameArbiterModel" "thrown" "I") (by decide +kernel)
  have hl := lv_entry ([.ref y, .int q, .long g]) (n := 5) (Nat.le_of_ble_eq_true rfl)
  rw [lg_entry_eq]
  generalize (lg_sl ([.ref y, .int q, .long g]) ++ List.replicate (5 - (lg_sl ([.ref y, .int q, .long g])).length) Slot.unset).toArray = ls at hl ⊢
  replace hl : lv_has ls 5 [(0, .ref y), (1, .int q), (2, .long g)] := hl
  subst hsz
  have hD := hD0.self (sz := s.heap.size)
  generalize hAe : va_A (wM cI y a b c9 d v th N n M S C V) s.heap.size = A at hD ⊢
  have hA : ∀ q : Nat, s.heap.size ≤ q → A q := fun q h => by rw [← hAe]; exact Or.inr h
  have hS : va_S A s.heap s.heap [] := va_S.rf
  replace hP : va_P (dC, dI) vwCl [(y, .inr (1, [.int th, .ref a, .int (nI n), .ref b, .ref c9, .ref d, .ref v])), (a, .inl (cI, 64, .inl N)), (b, .inl (cI, 40960, .inl M)), (c9, .inl (cI, 640, .inl S)), (d, .inl (cI, 640, .inl C)), (v, .inl (cI, 640, .inl V))] s.heap := hP
  replace hD : va_D A [(y, .inr (1, [.int th, .ref a, .int (nI n), .ref b, .ref c9, .ref d, .ref v])), (a, .inl (cI, 64, .inl N)), (b, .inl (cI, 40960, .inl M)), (c9, .inl (cI, 640, .inl S)), (d, .inl (cI, 640, .inl C)), (v, .inl (cI, 640, .inl V))] := hD
  refine lv_aload_n hx hb dX1_squares_0 rfl (lv_at hl 0 rfl) ?_
  refine lv_iconst (v := nI 0) hx hb dX1_squares_1 (by decide) ?_
  refine va_put (D := (dC, dI)) (ci := 1) (v := .int (nI 0)) (ty := .int) (C := RX1) (T := TX1) (N := 7) hx hb hts hinX1 tyX1 tyX1_ok nmX1 hown hK hP hD hS 0 rfl rfl 0 (by decide) hf26 (fun _ h9 => h9) rfl (by decide +kernel) rfl rfl (Nat.le_of_ble_eq_true rfl) dX1_squares_2 (fun H locs hP hD hS => ?_)
  replace hP : va_P (dC, dI) vwCl [(y, .inr (1, [.int (nI 0), .ref a, .int (nI n), .ref b, .ref c9, .ref d, .ref v])), (a, .inl (cI, 64, .inl N)), (b, .inl (cI, 40960, .inl M)), (c9, .inl (cI, 640, .inl S)), (d, .inl (cI, 640, .inl C)), (v, .inl (cI, 640, .inl V))] H := hP
  replace hD : va_D A [(y, .inr (1, [.int (nI 0), .ref a, .int (nI n), .ref b, .ref c9, .ref d, .ref v])), (a, .inl (cI, 64, .inl N)), (b, .inl (cI, 40960, .inl M)), (c9, .inl (cI, 640, .inl S)), (d, .inl (cI, 640, .inl C)), (v, .inl (cI, 640, .inl V))] := hD
  refine lv_iload_n hx hb dX1_squares_5 rfl (lv_at hl 1 rfl) ?_
  refine lv_if_lt (tgt := 14) hx hb dX1_squares_6 (by decide) (fun c_1 => ?_) (fun c_1 => ?_)
  · refine lv_iconst (v := nI 0) hx hb dX1_squares_14 (by decide) ?_
    exact wr_retz hx hb hr hlocks rfl (by rw [mo_sqR, if_pos c_1]) (by rw [mo_sqW, if_pos c_1]) hP hK hD hS dX1_squares_15
  · refine lv_iload_n hx hb dX1_squares_9 rfl (lv_at hl 1 rfl) ?_
    refine lv_iconst (v := nI 3) hx hb dX1_squares_10 (by decide) ?_
    refine lv_icmp_le (tgt := 16) hx hb dX1_squares_11 (by decide) (fun c_2 => ?_) (fun c_2 => ?_)
    · obtain ⟨pa, hpa, rfl⟩ := nI_of c_1
      have hp4 : pa ≤ 3 := (nI_leI (by omega) (by omega)).mp c_2
      refine lv_iconst (v := nI 0) hx hb dX1_squares_16 (by decide) ?_
      refine lv_istore (lv' := [(4, .int (nI 0)), (0, .ref y), (1, .int (nI pa)), (2, .long g)]) hx hb dX1_squares_17 hl (by decide) rfl (fun ls hl => ?_)
      obtain ⟨i, hi0⟩ : ∃ i : Nat, i = 0 := ⟨0, rfl⟩
      replace hl := lv_sub hl [1, 2, 3, 0] rfl
      replace hl : lv_has ls 5 [(0, .ref y), (1, .int (nI pa)), (2, .long g), (4, .int (nI i))] := by rw [hi0]; exact hl
      have hib : i ≤ 16 := by omega
      have hI : ∀ j, j < i → uN g / 2 ^ (4 * j) % 16 ≤ 12 := by subst hi0; exact fun j hj => absurd hj (by omega)
      clear hi0
      obtain ⟨zi, hzi⟩ : ∃ z : Nat, 16 < i + z := ⟨16 + 1, by omega⟩
      induction zi generalizing i ls with
      | zero => exact absurd hzi (by omega)
      | succ zi ihi =>
        refine lv_iload hx hb dX1_squares_19 (lv_at hl 3 rfl) ?_
        refine lv_bipush (v := nI 16) hx hb dX1_squares_21 (by decide) ?_
        refine lv_icmp_ge (tgt := 51) hx hb dX1_squares_23 (by decide) (fun c_3 => ?_) (fun c_3 => ?_)
        · have c_3 : 16 ≤ i := (nI_leI (show 16 < 2 ^ 31 by omega) (show i < 2 ^ 31 by omega)).mp c_3
          refine lv_iconst (v := nI 0) hx hb dX1_squares_51 (by decide) ?_
          refine lv_istore (lv' := [(4, .int (nI 0)), (0, .ref y), (1, .int (nI pa)), (2, .long g)]) hx hb dX1_squares_52 hl (by decide) rfl (fun ls hl => ?_)
          obtain ⟨k, hk0⟩ : ∃ k : Nat, k = 0 := ⟨0, rfl⟩
          replace hl := lv_sub hl [1, 2, 3, 0] rfl
          replace hl : lv_has ls 5 [(0, .ref y), (1, .int (nI pa)), (2, .long g), (4, .int (nI k))] := by rw [hk0]; exact hl
          have hkb : k ≤ 16 := by omega
          clear ihi
          replace hP : va_P (dC, dI) vwCl [(y, .inr (1, [.int (nI 0), .ref a, .int (nI n), .ref b, .ref c9, .ref d, .ref v])), (a, .inl (cI, 64, .inl (mo_sqN N pa g k))), (b, .inl (cI, 40960, .inl M)), (c9, .inl (cI, 640, .inl S)), (d, .inl (cI, 640, .inl C)), (v, .inl (cI, 640, .inl V))] H := by rw [hk0, mo_sqN_0]; exact hP
          replace hD : va_D A [(y, .inr (1, [.int (nI 0), .ref a, .int (nI n), .ref b, .ref c9, .ref d, .ref v])), (a, .inl (cI, 64, .inl (mo_sqN N pa g k))), (b, .inl (cI, 40960, .inl M)), (c9, .inl (cI, 640, .inl S)), (d, .inl (cI, 640, .inl C)), (v, .inl (cI, 640, .inl V))] := by rw [hk0, mo_sqN_0]; exact hD
          replace hP : va_P (dC, dI) vwCl [(y, .inr (1, [.int (nI 0), .ref a, .int (nI n), .ref b, .ref c9, .ref d, .ref v])), (a, .inl (cI, 64, .inl (mo_sqN N pa g k))), (b, .inl (cI, 40960, .inl M)), (c9, .inl (cI, 640, .inl S)), (d, .inl (cI, 640, .inl C)), (v, .inl (cI, 640, .inl V))] H := hP
          replace hD : va_D A [(y, .inr (1, [.int (nI 0), .ref a, .int (nI n), .ref b, .ref c9, .ref d, .ref v])), (a, .inl (cI, 64, .inl (mo_sqN N pa g k))), (b, .inl (cI, 40960, .inl M)), (c9, .inl (cI, 640, .inl S)), (d, .inl (cI, 640, .inl C)), (v, .inl (cI, 640, .inl V))] := hD
          clear hk0
          obtain ⟨zk, hzk⟩ : ∃ z : Nat, 16 < k + z := ⟨16 + 1, by omega⟩
          induction zk generalizing k ls H locs with
          | zero => exact absurd hzk (by omega)
          | succ zk ihk =>
            refine lv_iload hx hb dX1_squares_54 (lv_at hl 3 rfl) ?_
            refine lv_bipush (v := nI 16) hx hb dX1_squares_56 (by decide) ?_
            refine lv_icmp_ge (tgt := 93) hx hb dX1_squares_58 (by decide) (fun c_4 => ?_) (fun c_4 => ?_)
            · have c_4 : 16 ≤ k := (nI_leI (show 16 < 2 ^ 31 by omega) (show k < 2 ^ 31 by omega)).mp c_4
              refine lv_iconst (v := nI 1) hx hb dX1_squares_93 (by decide) ?_
              exact wr_retz hx hb hr hlocks rfl (by rw [mo_sqR, if_neg c_1, if_pos c_2, if_pos (show ∀ k, k < 16 → uN g / 2 ^ (4 * k) % 16 ≤ 12 from fun j hj => hI j (by omega))]) (by rw [mo_sqW, if_neg c_1, if_pos c_2, if_pos (show ∀ k, k < 16 → uN g / 2 ^ (4 * k) % 16 ≤ 12 from fun j hj => hI j (by omega)), nI_clamp (by omega), show k = 16 by omega]) hP hK hD hS dX1_squares_94
            · have c_4 : ¬ (16 ≤ k) := fun h => c_4 ((nI_leI (show 16 < 2 ^ 31 by omega) (show k < 2 ^ 31 by omega)).mpr h)
              refine lv_aload_n hx hb dX1_squares_61 rfl (lv_at hl 0 rfl) ?_
              refine va_get (D := (dC, dI)) (ci := 1) (v := .ref a) (C := RX1) (T := TX1) (N := 7) hx hb hts hinX1 hown hK hP 0 rfl rfl 1 (by decide) hf7 (fun _ h9 => h9) rfl dX1_squares_62 ?_
              refine lv_bipush (v := nI 16) hx hb dX1_squares_65 (by decide) ?_
              refine lv_iload_n hx hb dX1_squares_67 rfl (lv_at hl 1 rfl) ?_
              refine lv_imul hx hb dX1_squares_68 ?_
              refine lv_is (pk_mul _ _) ?_
              refine lv_iload hx hb dX1_squares_69 (lv_at hl 3 rfl) ?_
              refine lv_iadd hx hb dX1_squares_71 ?_
              refine lv_is (nI_add _ _) ?_
              refine lv_lload_n hx hb dX1_squares_72 rfl (lv_at hl 2 rfl) ?_
              refine lv_bipush (v := nI 60) hx hb dX1_squares_73 (by decide) ?_
              refine lv_iconst (v := nI 4) hx hb dX1_squares_75 (by decide) ?_
              refine lv_iload hx hb dX1_squares_76 (lv_at hl 3 rfl) ?_
              refine lv_imul hx hb dX1_squares_78 ?_
              refine lv_is (pk_mul _ _) ?_
              refine lv_isub hx hb dX1_squares_79 ?_
              refine lv_is (pk_sub (by omega)) ?_
              refine lv_lshr (v := g >>> ((nI (60 - (4 * k))).toInt64 &&& 63)) hx hb dX1_squares_80 rfl ?_
              refine lv_ldc2 (v := (15)) hx hb hown (hts (.constantLong RX1 30 (15)) (by decide +kernel)) dX1_squares_81 ?_
              refine lv_land hx hb dX1_squares_84 ?_
              refine lv_isl (show (g >>> ((nI (60 - (4 * k))).toInt64 &&& 63)) &&& (15) = lN (uN g / 2 ^ (60 - 4 * k) % 16) from nib_s g (by omega)) ?_
              refine lv_l2i (v := nI (nib g k)) hx hb dX1_squares_85 (lN_i (uN g / 2 ^ (60 - 4 * k) % 16)) ?_
              refine ix_iast hx hb hK hP hD hS 1 0 rfl rfl (show (16 * pa) + k < 64 by omega) (by decide) dX1_squares_86 (fun H locs hP hD hS => ?_)
              replace hP : va_P (dC, dI) vwCl [(y, .inr (1, [.int (nI 0), .ref a, .int (nI n), .ref b, .ref c9, .ref d, .ref v])), (a, .inl (cI, 64, .inl (upd (mo_sqN N pa g k) ((16 * pa) + k) (nI (nib g k))))), (b, .inl (cI, 40960, .inl M)), (c9, .inl (cI, 640, .inl S)), (d, .inl (cI, 640, .inl C)), (v, .inl (cI, 640, .inl V))] H := hP
              replace hD : va_D A [(y, .inr (1, [.int (nI 0), .ref a, .int (nI n), .ref b, .ref c9, .ref d, .ref v])), (a, .inl (cI, 64, .inl (upd (mo_sqN N pa g k) ((16 * pa) + k) (nI (nib g k))))), (b, .inl (cI, 40960, .inl M)), (c9, .inl (cI, 640, .inl S)), (d, .inl (cI, 640, .inl C)), (v, .inl (cI, 640, .inl V))] := hD
              refine lv_iinc (v := nI (k + 1)) (lv' := [(4, .int (nI (k + 1))), (0, .ref y), (1, .int (nI pa)), (2, .long g)]) hx hb dX1_squares_87 hl (k := 3) rfl (nI_1 _) (by decide) rfl (fun ls hl => ?_)
              refine lv_goto (tgt := 54) hx hb dX1_squares_90 (by decide) ?_
              rw [mo_sqN_s] at hP hD
              replace hP : va_P (dC, dI) vwCl [(y, .inr (1, [.int (nI 0), .ref a, .int (nI n), .ref b, .ref c9, .ref d, .ref v])), (a, .inl (cI, 64, .inl (mo_sqN N pa g (k + 1)))), (b, .inl (cI, 40960, .inl M)), (c9, .inl (cI, 640, .inl S)), (d, .inl (cI, 640, .inl C)), (v, .inl (cI, 640, .inl V))] H := hP
              replace hD : va_D A [(y, .inr (1, [.int (nI 0), .ref a, .int (nI n), .ref b, .ref c9, .ref d, .ref v])), (a, .inl (cI, 64, .inl (mo_sqN N pa g (k + 1)))), (b, .inl (cI, 40960, .inl M)), (c9, .inl (cI, 640, .inl S)), (d, .inl (cI, 640, .inl C)), (v, .inl (cI, 640, .inl V))] := hD
              replace hl := lv_sub hl [1, 2, 3, 0] rfl
              apply ihk (k := k + 1) <;> first | exact hP | exact hD | exact hS | exact hl | omega
        · have c_3 : ¬ (16 ≤ i) := fun h => c_3 ((nI_leI (show 16 < 2 ^ 31 by omega) (show i < 2 ^ 31 by omega)).mpr h)
          refine lv_lload_n hx hb dX1_squares_26 rfl (lv_at hl 2 rfl) ?_
          refine lv_iconst (v := nI 4) hx hb dX1_squares_27 (by decide) ?_
          refine lv_iload hx hb dX1_squares_28 (lv_at hl 3 rfl) ?_
          refine lv_imul hx hb dX1_squares_30 ?_
          refine lv_is (pk_mul _ _) ?_
          refine lv_lshr (v := g >>> ((nI (4 * i)).toInt64 &&& 63)) hx hb dX1_squares_31 rfl ?_
          refine lv_ldc2 (v := (15)) hx hb hown (hts (.constantLong RX1 30 (15)) (by decide +kernel)) dX1_squares_32 ?_
          refine lv_land hx hb dX1_squares_35 ?_
          refine lv_isl (show (g >>> ((nI (4 * i)).toInt64 &&& 63)) &&& (15) = lN (uN g / 2 ^ (4 * i) % 16) from nib_s g (by omega)) ?_
          refine lv_ldc2 (v := (12)) hx hb hown (hts (.constantLong RX1 32 (12)) (by decide +kernel)) dX1_squares_36 ?_
          refine W.lcmp hx hb dX1_squares_39 ?_
          refine lv_if_le (tgt := 45) hx hb dX1_squares_40 (by decide) (fun c_5 => ?_) (fun c_5 => ?_)
          · have hok : uN g / 2 ^ (4 * i) % 16 ≤ 12 := (pk_lLE (b := 12) (by omega) (by omega)).mp ((lg_cmp_le _ _).mp c_5)
            refine lv_iinc (v := nI (i + 1)) (lv' := [(4, .int (nI (i + 1))), (0, .ref y), (1, .int (nI pa)), (2, .long g)]) hx hb dX1_squares_45 hl (k := 3) rfl (nI_1 _) (by decide) rfl (fun ls hl => ?_)
            refine lv_goto (tgt := 19) hx hb dX1_squares_48 (by decide) ?_
            have hJ : ∀ j, j < i + 1 → uN g / 2 ^ (4 * j) % 16 ≤ 12 := fun j hj => by
              by_cases h : j = i
              · rw [h]; exact hok
              · exact hI j (by omega)
            exact ihi _ _ (lv_sub hl [1, 2, 3, 0] rfl) (by omega) hJ (by omega)
          · have hok : ¬ uN g / 2 ^ (4 * i) % 16 ≤ 12 := fun h => c_5 ((lg_cmp_le _ _).mpr ((pk_lLE (b := 12) (by omega) (by omega)).mpr h))
            refine lv_iconst (v := nI 0) hx hb dX1_squares_43 (by decide) ?_
            exact wr_retz hx hb hr hlocks rfl (by rw [mo_sqR, if_neg c_1, if_pos c_2, if_neg (fun h => hok (h i (by omega)))]) (by rw [mo_sqW, if_neg c_1, if_pos c_2, if_neg (fun h => hok (h i (by omega)))]) hP hK hD hS dX1_squares_44
    · refine lv_iconst (v := nI 0) hx hb dX1_squares_14 (by decide) ?_
      exact wr_retz hx hb hr hlocks rfl (by rw [mo_sqR, if_neg c_1, if_neg c_2]) (by rw [mo_sqW, if_neg c_1, if_neg c_2]) hP hK hD hS dX1_squares_15
set_option maxHeartbeats 4000000 in
set_option maxRecDepth 100000 in
theorem k_X1_add (l : Launch) (dC : Nat → ClassId) (dI : Nat → Nat → Nat) (cI : ClassId) (y a b c9 d v : Nat) (th : Int32) (N : Nat → Int32) (n : Nat) (M S C V : Nat → Int32) (st mv ck cl : Int32) (sz : Nat) (hn : n < 640) : Met l yX1_add wsX1_add ({ frames := 3, cells := 0, slots := 0, locals := 73 } : Room) (wr (dC, dI) (wM cI y a b c9 d v th N n M S C V) (tM cI) sz [.ref y, .int st, .int mv, .int ck, .int cl]) (wrQ (dC, dI) (wM cI y a b c9 d v th N (n + 1) (mo_adM M N n 64) (upd S n st) (upd C n cl) (upd V n (mo_ver (upd S n st) (mo_adM M N n 64) (upd C n cl) n mv ck))) (tM cI) (va_A (wM cI y a b c9 d v th N n M S C V) sz) (fun r => r = mo_ver (upd S n st) (mo_adM M N n 64) (upd C n cl) n mv ck)) 0 0 (va_A (wM cI y a b c9 d v th N n M S C V) sz) := by
  refine Met.ofW (cc := cX1_add) (maxL := 6) (ret := (some .int)) (by decide) rfl ?_
  intro p e s m args below meth c s₁ B hml hv
  obtain ⟨rfl, hsz, hP, hK, hD0⟩ := hv
  have hx := B.exec
  have hb := B.bytes
  have hr := B.returns
  have hts := atoms_spec (ws := wsX1_add) B.pre
  have hown : s.vm.findClass RX1 = some m.cls := findClass_of_methodNamed B.named
  have hlocks := B.notSynchronized
  have hinX1 : ∀ w ∈ u_ws RX1 TX1 7, w ∈ wsX1_add := by decide +kernel
  have hf7 := hts (.fieldLink RX1 7 "GameArbiterModel" "next" "[I") (by decide +kernel)
  have hf14 := hts (.fieldLink RX1 14 "GameArbiterModel" "men" "[I") (by decide +kernel)
  have hf17 := hts (.fieldLink RX1 17 "GameArbiterModel" "states" "[I") (by decide +kernel)
  have hf20 := hts (.fieldLink RX1 20 "GameArbiterModel" "clocks" "[I") (by decide +kernel)
  have hf23 := hts (.fieldLink RX1 23 "GameArbiterModel" "verdicts" "[I") (by decide +kernel)
  have hf53 := hts (.fieldLink RX1 53 "GameArbiterModel" "many" "I") (by decide +kernel)
  have hl := lv_entry ([.ref y, .int st, .int mv, .int ck, .int cl]) (n := 6) (Nat.le_of_ble_eq_true rfl)
  rw [lg_entry_eq]
  generalize (lg_sl ([.ref y, .int st, .int mv, .int ck, .int cl]) ++ List.replicate (6 - (lg_sl ([.ref y, .int st, .int mv, .int ck, .int cl])).length) Slot.unset).toArray = ls at hl ⊢
  replace hl : lv_has ls 6 [(0, .ref y), (1, .int st), (2, .int mv), (3, .int ck), (4, .int cl)] := hl
  subst hsz
  have hD := hD0.self (sz := s.heap.size)
  generalize hAe : va_A (wM cI y a b c9 d v th N n M S C V) s.heap.size = A at hD ⊢
  have hA : ∀ q : Nat, s.heap.size ≤ q → A q := fun q h => by rw [← hAe]; exact Or.inr h
  have hS : va_S A s.heap s.heap [] := va_S.rf
  replace hP : va_P (dC, dI) vwCl [(y, .inr (1, [.int th, .ref a, .int (nI n), .ref b, .ref c9, .ref d, .ref v])), (a, .inl (cI, 64, .inl N)), (b, .inl (cI, 40960, .inl M)), (c9, .inl (cI, 640, .inl S)), (d, .inl (cI, 640, .inl C)), (v, .inl (cI, 640, .inl V))] s.heap := hP
  replace hD : va_D A [(y, .inr (1, [.int th, .ref a, .int (nI n), .ref b, .ref c9, .ref d, .ref v])), (a, .inl (cI, 64, .inl N)), (b, .inl (cI, 40960, .inl M)), (c9, .inl (cI, 640, .inl S)), (d, .inl (cI, 640, .inl C)), (v, .inl (cI, 640, .inl V))] := hD
  refine lv_iconst (v := nI 0) hx hb dX1_add_0 (by decide) ?_
  refine lv_istore (lv' := [(5, .int (nI 0)), (0, .ref y), (1, .int st), (2, .int mv), (3, .int ck), (4, .int cl)]) hx hb dX1_add_1 hl (by decide) rfl (fun ls hl => ?_)
  obtain ⟨k, hk0⟩ : ∃ k : Nat, k = 0 := ⟨0, rfl⟩
  replace hl := lv_sub hl [1, 2, 3, 4, 5, 0] rfl
  replace hl : lv_has ls 6 [(0, .ref y), (1, .int st), (2, .int mv), (3, .int ck), (4, .int cl), (5, .int (nI k))] := by rw [hk0]; exact hl
  have hkb : k ≤ 64 := by omega
  generalize hHe : s.heap = H at hP ⊢
  replace hS : va_S A s.heap H [] := by rw [← hHe]; exact va_S.rf
  clear hHe
  generalize hLe : ([] : List Loc) = locs at hS ⊢
  clear hLe
  replace hP : va_P (dC, dI) vwCl [(y, .inr (1, [.int th, .ref a, .int (nI n), .ref b, .ref c9, .ref d, .ref v])), (a, .inl (cI, 64, .inl N)), (b, .inl (cI, 40960, .inl (mo_adM M N n k))), (c9, .inl (cI, 640, .inl S)), (d, .inl (cI, 640, .inl C)), (v, .inl (cI, 640, .inl V))] H := by rw [hk0, mo_adM_0]; exact hP
  replace hD : va_D A [(y, .inr (1, [.int th, .ref a, .int (nI n), .ref b, .ref c9, .ref d, .ref v])), (a, .inl (cI, 64, .inl N)), (b, .inl (cI, 40960, .inl (mo_adM M N n k))), (c9, .inl (cI, 640, .inl S)), (d, .inl (cI, 640, .inl C)), (v, .inl (cI, 640, .inl V))] := by rw [hk0, mo_adM_0]; exact hD
  replace hP : va_P (dC, dI) vwCl [(y, .inr (1, [.int th, .ref a, .int (nI n), .ref b, .ref c9, .ref d, .ref v])), (a, .inl (cI, 64, .inl N)), (b, .inl (cI, 40960, .inl (mo_adM M N n k))), (c9, .inl (cI, 640, .inl S)), (d, .inl (cI, 640, .inl C)), (v, .inl (cI, 640, .inl V))] H := hP
  replace hD : va_D A [(y, .inr (1, [.int th, .ref a, .int (nI n), .ref b, .ref c9, .ref d, .ref v])), (a, .inl (cI, 64, .inl N)), (b, .inl (cI, 40960, .inl (mo_adM M N n k))), (c9, .inl (cI, 640, .inl S)), (d, .inl (cI, 640, .inl C)), (v, .inl (cI, 640, .inl V))] := hD
  clear hk0
  obtain ⟨zk, hzk⟩ : ∃ z : Nat, 64 < k + z := ⟨64 + 1, by omega⟩
  induction zk generalizing k ls H locs with
  | zero => exact absurd hzk (by omega)
  | succ zk ihk =>
    refine lv_iload hx hb dX1_add_3 (lv_at hl 5 rfl) ?_
    refine lv_bipush (v := nI 64) hx hb dX1_add_5 (by decide) ?_
    refine lv_icmp_ge (tgt := 38) hx hb dX1_add_7 (by decide) (fun c_1 => ?_) (fun c_1 => ?_)
    · have c_1 : 64 ≤ k := (nI_leI (show 64 < 2 ^ 31 by omega) (show k < 2 ^ 31 by omega)).mp c_1
      obtain rfl : k = 64 := by omega
      refine lv_aload_n hx hb dX1_add_38 rfl (lv_at hl 0 rfl) ?_
      refine va_get (D := (dC, dI)) (ci := 1) (v := .ref c9) (C := RX1) (T := TX1) (N := 7) hx hb hts hinX1 hown hK hP 0 rfl rfl 4 (by decide) hf17 (fun _ h9 => h9) rfl dX1_add_39 ?_
      refine lv_aload_n hx hb dX1_add_42 rfl (lv_at hl 0 rfl) ?_
      refine va_get (D := (dC, dI)) (ci := 1) (v := .int (nI n)) (C := RX1) (T := TX1) (N := 7) hx hb hts hinX1 hown hK hP 0 rfl rfl 2 (by decide) hf53 (fun _ h9 => h9) rfl dX1_add_43 ?_
      refine lv_iload_n hx hb dX1_add_46 rfl (lv_at hl 1 rfl) ?_
      refine ix_iast hx hb hK hP hD hS 3 0 rfl rfl (show n < 640 by omega) (by decide) dX1_add_47 (fun H locs hP hD hS => ?_)
      replace hP : va_P (dC, dI) vwCl [(y, .inr (1, [.int th, .ref a, .int (nI n), .ref b, .ref c9, .ref d, .ref v])), (a, .inl (cI, 64, .inl N)), (b, .inl (cI, 40960, .inl (mo_adM M N n 64))), (c9, .inl (cI, 640, .inl (upd S n st))), (d, .inl (cI, 640, .inl C)), (v, .inl (cI, 640, .inl V))] H := hP
      replace hD : va_D A [(y, .inr (1, [.int th, .ref a, .int (nI n), .ref b, .ref c9, .ref d, .ref v])), (a, .inl (cI, 64, .inl N)), (b, .inl (cI, 40960, .inl (mo_adM M N n 64))), (c9, .inl (cI, 640, .inl (upd S n st))), (d, .inl (cI, 640, .inl C)), (v, .inl (cI, 640, .inl V))] := hD
      refine lv_aload_n hx hb dX1_add_48 rfl (lv_at hl 0 rfl) ?_
      refine va_get (D := (dC, dI)) (ci := 1) (v := .ref d) (C := RX1) (T := TX1) (N := 7) hx hb hts hinX1 hown hK hP 0 rfl rfl 5 (by decide) hf20 (fun _ h9 => h9) rfl dX1_add_49 ?_
      refine lv_aload_n hx hb dX1_add_52 rfl (lv_at hl 0 rfl) ?_
      refine va_get (D := (dC, dI)) (ci := 1) (v := .int (nI n)) (C := RX1) (T := TX1) (N := 7) hx hb hts hinX1 hown hK hP 0 rfl rfl 2 (by decide) hf53 (fun _ h9 => h9) rfl dX1_add_53 ?_
      refine lv_iload hx hb dX1_add_56 (lv_at hl 4 rfl) ?_
      refine ix_iast hx hb hK hP hD hS 4 0 rfl rfl (show n < 640 by omega) (by decide) dX1_add_58 (fun H locs hP hD hS => ?_)
      replace hP : va_P (dC, dI) vwCl [(y, .inr (1, [.int th, .ref a, .int (nI n), .ref b, .ref c9, .ref d, .ref v])), (a, .inl (cI, 64, .inl N)), (b, .inl (cI, 40960, .inl (mo_adM M N n 64))), (c9, .inl (cI, 640, .inl (upd S n st))), (d, .inl (cI, 640, .inl (upd C n cl))), (v, .inl (cI, 640, .inl V))] H := hP
      replace hD : va_D A [(y, .inr (1, [.int th, .ref a, .int (nI n), .ref b, .ref c9, .ref d, .ref v])), (a, .inl (cI, 64, .inl N)), (b, .inl (cI, 40960, .inl (mo_adM M N n 64))), (c9, .inl (cI, 640, .inl (upd S n st))), (d, .inl (cI, 640, .inl (upd C n cl))), (v, .inl (cI, 640, .inl V))] := hD
      refine lv_aload_n hx hb dX1_add_59 rfl (lv_at hl 0 rfl) ?_
      refine lv_dup hx hb dX1_add_60 rfl ?_
      refine va_get (D := (dC, dI)) (ci := 1) (v := .int (nI n)) (C := RX1) (T := TX1) (N := 7) hx hb hts hinX1 hown hK hP 0 rfl rfl 2 (by decide) hf53 (fun _ h9 => h9) rfl dX1_add_61 ?_
      refine lv_iconst (v := nI 1) hx hb dX1_add_64 (by decide) ?_
      refine lv_iadd hx hb dX1_add_65 ?_
      refine lv_is (nI_add _ _) ?_
      refine va_put (D := (dC, dI)) (ci := 1) (v := .int (nI (n + 1))) (ty := .int) (C := RX1) (T := TX1) (N := 7) hx hb hts hinX1 tyX1 tyX1_ok nmX1 hown hK hP hD hS 0 rfl rfl 2 (by decide) hf53 (fun _ h9 => h9) rfl (by decide +kernel) rfl rfl (Nat.le_of_ble_eq_true rfl) dX1_add_66 (fun H locs hP hD hS => ?_)
      replace hP : va_P (dC, dI) vwCl [(y, .inr (1, [.int th, .ref a, .int (nI (n + 1)), .ref b, .ref c9, .ref d, .ref v])), (a, .inl (cI, 64, .inl N)), (b, .inl (cI, 40960, .inl (mo_adM M N n 64))), (c9, .inl (cI, 640, .inl (upd S n st))), (d, .inl (cI, 640, .inl (upd C n cl))), (v, .inl (cI, 640, .inl V))] H := hP
      replace hD : va_D A [(y, .inr (1, [.int th, .ref a, .int (nI (n + 1)), .ref b, .ref c9, .ref d, .ref v])), (a, .inl (cI, 64, .inl N)), (b, .inl (cI, 40960, .inl (mo_adM M N n 64))), (c9, .inl (cI, 640, .inl (upd S n st))), (d, .inl (cI, 640, .inl (upd C n cl))), (v, .inl (cI, 640, .inl V))] := hD
      refine lv_aload_n hx hb dX1_add_69 rfl (lv_at hl 0 rfl) ?_
      refine va_get (D := (dC, dI)) (ci := 1) (v := .ref v) (C := RX1) (T := TX1) (N := 7) hx hb hts hinX1 hown hK hP 0 rfl rfl 6 (by decide) hf23 (fun _ h9 => h9) rfl dX1_add_70 ?_
      refine lv_aload_n hx hb dX1_add_73 rfl (lv_at hl 0 rfl) ?_
      refine va_get (D := (dC, dI)) (ci := 1) (v := .int (nI (n + 1))) (C := RX1) (T := TX1) (N := 7) hx hb hts hinX1 hown hK hP 0 rfl rfl 2 (by decide) hf53 (fun _ h9 => h9) rfl dX1_add_74 ?_
      refine lv_iconst (v := nI 1) hx hb dX1_add_77 (by decide) ?_
      refine lv_isub hx hb dX1_add_78 ?_
      refine lv_is (pk_sub (by omega)) ?_
      refine lv_is (show nI ((n + 1) - 1) = nI n from rfl) ?_
      refine lv_aload_n hx hb dX1_add_79 rfl (lv_at hl 0 rfl) ?_
      refine lv_aload_n hx hb dX1_add_80 rfl (lv_at hl 0 rfl) ?_
      refine va_get (D := (dC, dI)) (ci := 1) (v := .int (nI (n + 1))) (C := RX1) (T := TX1) (N := 7) hx hb hts hinX1 hown hK hP 0 rfl rfl 2 (by decide) hf53 (fun _ h9 => h9) rfl dX1_add_81 ?_
      refine lv_iconst (v := nI 1) hx hb dX1_add_84 (by decide) ?_
      refine lv_isub hx hb dX1_add_85 ?_
      refine lv_is (pk_sub (by omega)) ?_
      refine lv_is (show nI ((n + 1) - 1) = nI n from rfl) ?_
      refine lv_iload_n hx hb dX1_add_86 rfl (lv_at hl 2 rfl) ?_
      refine lv_iload_n hx hb dX1_add_87 rfl (lv_at hl 3 rfl) ?_
      refine rd_callV (rest := [.int (nI n), .ref v]) ⟨hx, hb, hml, hown, hts⟩ (k_X1_verdictOf l dC dI cI y a b c9 d v th N (n + 1) (mo_adM M N n 64) (upd S n st) (upd C n cl) V n mv ck (by omega)) (cwV 3 hts gX1_add_X1_verdictOf rfl rfl rfl (by decide +kernel) ⟨Nat.le_of_ble_eq_true rfl, Nat.le_of_ble_eq_true rfl⟩) hK hP rfl (q0 := 0) rfl rfl hl.1 rfl (Nat.le_of_ble_eq_true rfl) dX1_add_88 ⟨Nat.zero_le _, Nat.zero_le _⟩ ?_
      refine ix_iast hx hb hK hP hD hS 5 0 rfl rfl (show n < 640 by omega) (by decide) dX1_add_91 (fun H locs hP hD hS => ?_)
      replace hP : va_P (dC, dI) vwCl [(y, .inr (1, [.int th, .ref a, .int (nI (n + 1)), .ref b, .ref c9, .ref d, .ref v])), (a, .inl (cI, 64, .inl N)), (b, .inl (cI, 40960, .inl (mo_adM M N n 64))), (c9, .inl (cI, 640, .inl (upd S n st))), (d, .inl (cI, 640, .inl (upd C n cl))), (v, .inl (cI, 640, .inl (upd V n (mo_ver (upd S n st) (mo_adM M N n 64) (upd C n cl) n mv ck))))] H := hP
      replace hD : va_D A [(y, .inr (1, [.int th, .ref a, .int (nI (n + 1)), .ref b, .ref c9, .ref d, .ref v])), (a, .inl (cI, 64, .inl N)), (b, .inl (cI, 40960, .inl (mo_adM M N n 64))), (c9, .inl (cI, 640, .inl (upd S n st))), (d, .inl (cI, 640, .inl (upd C n cl))), (v, .inl (cI, 640, .inl (upd V n (mo_ver (upd S n st) (mo_adM M N n 64) (upd C n cl) n mv ck))))] := hD
      refine lv_aload_n hx hb dX1_add_92 rfl (lv_at hl 0 rfl) ?_
      refine va_get (D := (dC, dI)) (ci := 1) (v := .ref v) (C := RX1) (T := TX1) (N := 7) hx hb hts hinX1 hown hK hP 0 rfl rfl 6 (by decide) hf23 (fun _ h9 => h9) rfl dX1_add_93 ?_
      refine lv_aload_n hx hb dX1_add_96 rfl (lv_at hl 0 rfl) ?_
      refine va_get (D := (dC, dI)) (ci := 1) (v := .int (nI (n + 1))) (C := RX1) (T := TX1) (N := 7) hx hb hts hinX1 hown hK hP 0 rfl rfl 2 (by decide) hf53 (fun _ h9 => h9) rfl dX1_add_97 ?_
      refine lv_iconst (v := nI 1) hx hb dX1_add_100 (by decide) ?_
      refine lv_isub hx hb dX1_add_101 ?_
      refine lv_is (pk_sub (by omega)) ?_
      refine lv_is (show nI ((n + 1) - 1) = nI n from rfl) ?_
      refine ix_iald hx hb hK hP 5 0 rfl rfl (show n < 640 by omega) (by decide) dX1_add_102 ?_
      refine lv_is (show (upd V n (mo_ver (upd S n st) (mo_adM M N n 64) (upd C n cl) n mv ck)) n = mo_ver (upd S n st) (mo_adM M N n 64) (upd C n cl) n mv ck from pk_us) ?_
      exact wr_ret hx hb hr hlocks (rfl) (rfl) hP hK hD hS dX1_add_103
    · have c_1 : ¬ (64 ≤ k) := fun h => c_1 ((nI_leI (show 64 < 2 ^ 31 by omega) (show k < 2 ^ 31 by omega)).mpr h)
      refine lv_aload_n hx hb dX1_add_10 rfl (lv_at hl 0 rfl) ?_
      refine va_get (D := (dC, dI)) (ci := 1) (v := .ref b) (C := RX1) (T := TX1) (N := 7) hx hb hts hinX1 hown hK hP 0 rfl rfl 3 (by decide) hf14 (fun _ h9 => h9) rfl dX1_add_11 ?_
      refine lv_bipush (v := nI 64) hx hb dX1_add_14 (by decide) ?_
      refine lv_aload_n hx hb dX1_add_16 rfl (lv_at hl 0 rfl) ?_
      refine va_get (D := (dC, dI)) (ci := 1) (v := .int (nI n)) (C := RX1) (T := TX1) (N := 7) hx hb hts hinX1 hown hK hP 0 rfl rfl 2 (by decide) hf53 (fun _ h9 => h9) rfl dX1_add_17 ?_
      refine lv_imul hx hb dX1_add_20 ?_
      refine lv_is (pk_mul _ _) ?_
      refine lv_iload hx hb dX1_add_21 (lv_at hl 5 rfl) ?_
      refine lv_iadd hx hb dX1_add_23 ?_
      refine lv_is (nI_add _ _) ?_
      refine lv_aload_n hx hb dX1_add_24 rfl (lv_at hl 0 rfl) ?_
      refine va_get (D := (dC, dI)) (ci := 1) (v := .ref a) (C := RX1) (T := TX1) (N := 7) hx hb hts hinX1 hown hK hP 0 rfl rfl 1 (by decide) hf7 (fun _ h9 => h9) rfl dX1_add_25 ?_
      refine lv_iload hx hb dX1_add_28 (lv_at hl 5 rfl) ?_
      refine ix_iald hx hb hK hP 1 0 rfl rfl (show k < 64 by omega) (by decide) dX1_add_30 ?_
      refine ix_iast hx hb hK hP hD hS 2 0 rfl rfl (show (64 * n) + k < 40960 by omega) (by decide) dX1_add_31 (fun H locs hP hD hS => ?_)
      replace hP : va_P (dC, dI) vwCl [(y, .inr (1, [.int th, .ref a, .int (nI n), .ref b, .ref c9, .ref d, .ref v])), (a, .inl (cI, 64, .inl N)), (b, .inl (cI, 40960, .inl (upd (mo_adM M N n k) ((64 * n) + k) (N k)))), (c9, .inl (cI, 640, .inl S)), (d, .inl (cI, 640, .inl C)), (v, .inl (cI, 640, .inl V))] H := hP
      replace hD : va_D A [(y, .inr (1, [.int th, .ref a, .int (nI n), .ref b, .ref c9, .ref d, .ref v])), (a, .inl (cI, 64, .inl N)), (b, .inl (cI, 40960, .inl (upd (mo_adM M N n k) ((64 * n) + k) (N k)))), (c9, .inl (cI, 640, .inl S)), (d, .inl (cI, 640, .inl C)), (v, .inl (cI, 640, .inl V))] := hD
      refine lv_iinc (v := nI (k + 1)) (lv' := [(5, .int (nI (k + 1))), (0, .ref y), (1, .int st), (2, .int mv), (3, .int ck), (4, .int cl)]) hx hb dX1_add_32 hl (k := 5) rfl (nI_1 _) (by decide) rfl (fun ls hl => ?_)
      refine lv_goto (tgt := 3) hx hb dX1_add_35 (by decide) ?_
      rw [mo_adM_s] at hP hD
      replace hP : va_P (dC, dI) vwCl [(y, .inr (1, [.int th, .ref a, .int (nI n), .ref b, .ref c9, .ref d, .ref v])), (a, .inl (cI, 64, .inl N)), (b, .inl (cI, 40960, .inl (mo_adM M N n (k + 1)))), (c9, .inl (cI, 640, .inl S)), (d, .inl (cI, 640, .inl C)), (v, .inl (cI, 640, .inl V))] H := hP
      replace hD : va_D A [(y, .inr (1, [.int th, .ref a, .int (nI n), .ref b, .ref c9, .ref d, .ref v])), (a, .inl (cI, 64, .inl N)), (b, .inl (cI, 40960, .inl (mo_adM M N n (k + 1)))), (c9, .inl (cI, 640, .inl S)), (d, .inl (cI, 640, .inl C)), (v, .inl (cI, 640, .inl V))] := hD
      replace hl := lv_sub hl [1, 2, 3, 4, 5, 0] rfl
      apply ihk (k := k + 1) <;> first | exact hP | exact hD | exact hS | exact hl | omega
set_option maxHeartbeats 4000000 in
set_option maxRecDepth 100000 in
theorem k_X1_begin (l : Launch) (dC : Nat → ClassId) (dI : Nat → Nat → Nat) (cI : ClassId) (y a b c9 d v : Nat) (th : Int32) (N : Nat → Int32) (n : Nat) (M S C V : Nat → Int32) (st mv ck cl : Int32) (sz : Nat) (hn : n ≤ 640) : Met l yX1_begin wsX1_begin ({ frames := 4, cells := 0, slots := 0, locals := 98 } : Room) (wr (dC, dI) (wM cI y a b c9 d v th N n M S C V) (tM cI) sz [.ref y, .int st, .int mv, .int ck, .int cl]) (wrQ (dC, dI) (wM cI y a b c9 d v (nI (mo_okB st mv cl)) N (sel (mo_okB st mv cl) (0 + 1) n) (sel (mo_okB st mv cl) (mo_adM M N 0 64) M) (sel (mo_okB st mv cl) (upd S 0 st) S) (sel (mo_okB st mv cl) (upd C 0 cl) C) (sel (mo_okB st mv cl) (upd V 0 (mo_ver (upd S 0 st) (mo_adM M N 0 64) (upd C 0 cl) 0 mv ck)) V)) (tM cI) (va_A (wM cI y a b c9 d v th N n M S C V) sz) (fun r => r = sel (mo_okB st mv cl) (mo_ver (upd S 0 st) (mo_adM M N 0 64) (upd C 0 cl) 0 mv ck) (nI 0))) 0 0 (va_A (wM cI y a b c9 d v th N n M S C V) sz) := by
  refine Met.ofW (cc := cX1_begin) (maxL := 5) (ret := (some .int)) (by decide) rfl ?_
  intro p e s m args below meth c s₁ B hml hv
  obtain ⟨rfl, hsz, hP, hK, hD0⟩ := hv
  have hx := B.exec
  have hb := B.bytes
  have hr := B.returns
  have hts := atoms_spec (ws := wsX1_begin) B.pre
  have hown : s.vm.findClass RX1 = some m.cls := findClass_of_methodNamed B.named
  have hlocks := B.notSynchronized
  have hinX1 : ∀ w ∈ u_ws RX1 TX1 7, w ∈ wsX1_begin := by decide +kernel
  have hf26 := hts (.fieldLink RX1 26 "GameArbiterModel" "thrown" "I") (by decide +kernel)
  have hf53 := hts (.fieldLink RX1 53 "GameArbiterModel" "many" "I") (by decide +kernel)
  have hl := lv_entry ([.ref y, .int st, .int mv, .int ck, .int cl]) (n := 5) (Nat.le_of_ble_eq_true rfl)
  rw [lg_entry_eq]
  generalize (lg_sl ([.ref y, .int st, .int mv, .int ck, .int cl]) ++ List.replicate (5 - (lg_sl ([.ref y, .int st, .int mv, .int ck, .int cl])).length) Slot.unset).toArray = ls at hl ⊢
  replace hl : lv_has ls 5 [(0, .ref y), (1, .int st), (2, .int mv), (3, .int ck), (4, .int cl)] := hl
  subst hsz
  have hD := hD0.self (sz := s.heap.size)
  generalize hAe : va_A (wM cI y a b c9 d v th N n M S C V) s.heap.size = A at hD ⊢
  have hA : ∀ q : Nat, s.heap.size ≤ q → A q := fun q h => by rw [← hAe]; exact Or.inr h
  have hS : va_S A s.heap s.heap [] := va_S.rf
  replace hP : va_P (dC, dI) vwCl [(y, .inr (1, [.int th, .ref a, .int (nI n), .ref b, .ref c9, .ref d, .ref v])), (a, .inl (cI, 64, .inl N)), (b, .inl (cI, 40960, .inl M)), (c9, .inl (cI, 640, .inl S)), (d, .inl (cI, 640, .inl C)), (v, .inl (cI, 640, .inl V))] s.heap := hP
  replace hD : va_D A [(y, .inr (1, [.int th, .ref a, .int (nI n), .ref b, .ref c9, .ref d, .ref v])), (a, .inl (cI, 64, .inl N)), (b, .inl (cI, 40960, .inl M)), (c9, .inl (cI, 640, .inl S)), (d, .inl (cI, 640, .inl C)), (v, .inl (cI, 640, .inl V))] := hD
  refine lv_aload_n hx hb dX1_begin_0 rfl (lv_at hl 0 rfl) ?_
  refine lv_iload_n hx hb dX1_begin_1 rfl (lv_at hl 1 rfl) ?_
  refine pu_callS (rest := [.ref y]) ⟨hx, hb, hml, hown, hts⟩ (k_X1_isState l st) (va_cwS 1 hts gX1_begin_X1_isState rfl rfl rfl (by decide +kernel) ⟨Nat.le_of_ble_eq_true rfl, Nat.le_of_ble_eq_true rfl⟩) rfl hl.1 rfl (Nat.le_of_ble_eq_true rfl) dX1_begin_2 ⟨Nat.zero_le _, Nat.zero_le _⟩ ?_
  refine lv_if_eq (tgt := 36) hx hb dX1_begin_5 (by decide) (fun c_1 => ?_) (fun c_1 => ?_)
  · refine lv_iconst (v := nI 1) hx hb dX1_begin_36 (by decide) ?_
    refine va_put (D := (dC, dI)) (ci := 1) (v := .int (nI 1)) (ty := .int) (C := RX1) (T := TX1) (N := 7) hx hb hts hinX1 tyX1 tyX1_ok nmX1 hown hK hP hD hS 0 rfl rfl 0 (by decide) hf26 (fun _ h9 => h9) rfl (by decide +kernel) rfl rfl (Nat.le_of_ble_eq_true rfl) dX1_begin_37 (fun H locs hP hD hS => ?_)
    replace hP : va_P (dC, dI) vwCl [(y, .inr (1, [.int (nI 1), .ref a, .int (nI n), .ref b, .ref c9, .ref d, .ref v])), (a, .inl (cI, 64, .inl N)), (b, .inl (cI, 40960, .inl M)), (c9, .inl (cI, 640, .inl S)), (d, .inl (cI, 640, .inl C)), (v, .inl (cI, 640, .inl V))] H := hP
    replace hD : va_D A [(y, .inr (1, [.int (nI 1), .ref a, .int (nI n), .ref b, .ref c9, .ref d, .ref v])), (a, .inl (cI, 64, .inl N)), (b, .inl (cI, 40960, .inl M)), (c9, .inl (cI, 640, .inl S)), (d, .inl (cI, 640, .inl C)), (v, .inl (cI, 640, .inl V))] := hD
    have hok : mo_okB st mv cl = 1 := by rw [mo_okB, if_pos c_1]
    refine lv_aload_n hx hb dX1_begin_40 rfl (lv_at hl 0 rfl) ?_
    refine va_get (D := (dC, dI)) (ci := 1) (v := .int (nI 1)) (C := RX1) (T := TX1) (N := 7) hx hb hts hinX1 hown hK hP 0 rfl rfl 0 (by decide) hf26 (fun _ h9 => h9) rfl dX1_begin_41 ?_
    refine lv_if_le (tgt := 49) hx hb dX1_begin_44 (by decide) (fun c_2 => ?_) (fun c_2 => ?_)
    · exact absurd c_2 (by decide)
    · refine lv_iconst (v := nI 0) hx hb dX1_begin_47 (by decide) ?_
      exact wr_ret hx hb hr hlocks (by rw [hok]; rfl) (by rw [hok]; rfl) hP hK hD hS dX1_begin_48
  · refine lv_iload_n hx hb dX1_begin_8 rfl (lv_at hl 2 rfl) ?_
    refine lv_if_lt (tgt := 36) hx hb dX1_begin_9 (by decide) (fun c_3 => ?_) (fun c_3 => ?_)
    · refine lv_iconst (v := nI 1) hx hb dX1_begin_36 (by decide) ?_
      refine va_put (D := (dC, dI)) (ci := 1) (v := .int (nI 1)) (ty := .int) (C := RX1) (T := TX1) (N := 7) hx hb hts hinX1 tyX1 tyX1_ok nmX1 hown hK hP hD hS 0 rfl rfl 0 (by decide) hf26 (fun _ h9 => h9) rfl (by decide +kernel) rfl rfl (Nat.le_of_ble_eq_true rfl) dX1_begin_37 (fun H locs hP hD hS => ?_)
      replace hP : va_P (dC, dI) vwCl [(y, .inr (1, [.int (nI 1), .ref a, .int (nI n), .ref b, .ref c9, .ref d, .ref v])), (a, .inl (cI, 64, .inl N)), (b, .inl (cI, 40960, .inl M)), (c9, .inl (cI, 640, .inl S)), (d, .inl (cI, 640, .inl C)), (v, .inl (cI, 640, .inl V))] H := hP
      replace hD : va_D A [(y, .inr (1, [.int (nI 1), .ref a, .int (nI n), .ref b, .ref c9, .ref d, .ref v])), (a, .inl (cI, 64, .inl N)), (b, .inl (cI, 40960, .inl M)), (c9, .inl (cI, 640, .inl S)), (d, .inl (cI, 640, .inl C)), (v, .inl (cI, 640, .inl V))] := hD
      have hok : mo_okB st mv cl = 1 := by rw [mo_okB, if_neg c_1, if_pos c_3]
      refine lv_aload_n hx hb dX1_begin_40 rfl (lv_at hl 0 rfl) ?_
      refine va_get (D := (dC, dI)) (ci := 1) (v := .int (nI 1)) (C := RX1) (T := TX1) (N := 7) hx hb hts hinX1 hown hK hP 0 rfl rfl 0 (by decide) hf26 (fun _ h9 => h9) rfl dX1_begin_41 ?_
      refine lv_if_le (tgt := 49) hx hb dX1_begin_44 (by decide) (fun c_4 => ?_) (fun c_4 => ?_)
      · exact absurd c_4 (by decide)
      · refine lv_iconst (v := nI 0) hx hb dX1_begin_47 (by decide) ?_
        exact wr_ret hx hb hr hlocks (by rw [hok]; rfl) (by rw [hok]; rfl) hP hK hD hS dX1_begin_48
    · refine lv_iload_n hx hb dX1_begin_12 rfl (lv_at hl 2 rfl) ?_
      refine lv_sipush (v := nI 300) hx hb dX1_begin_13 (by decide) ?_
      refine lv_icmp_gt (tgt := 36) hx hb dX1_begin_16 (by decide) (fun c_5 => ?_) (fun c_5 => ?_)
      · refine lv_iconst (v := nI 1) hx hb dX1_begin_36 (by decide) ?_
        refine va_put (D := (dC, dI)) (ci := 1) (v := .int (nI 1)) (ty := .int) (C := RX1) (T := TX1) (N := 7) hx hb hts hinX1 tyX1 tyX1_ok nmX1 hown hK hP hD hS 0 rfl rfl 0 (by decide) hf26 (fun _ h9 => h9) rfl (by decide +kernel) rfl rfl (Nat.le_of_ble_eq_true rfl) dX1_begin_37 (fun H locs hP hD hS => ?_)
        replace hP : va_P (dC, dI) vwCl [(y, .inr (1, [.int (nI 1), .ref a, .int (nI n), .ref b, .ref c9, .ref d, .ref v])), (a, .inl (cI, 64, .inl N)), (b, .inl (cI, 40960, .inl M)), (c9, .inl (cI, 640, .inl S)), (d, .inl (cI, 640, .inl C)), (v, .inl (cI, 640, .inl V))] H := hP
        replace hD : va_D A [(y, .inr (1, [.int (nI 1), .ref a, .int (nI n), .ref b, .ref c9, .ref d, .ref v])), (a, .inl (cI, 64, .inl N)), (b, .inl (cI, 40960, .inl M)), (c9, .inl (cI, 640, .inl S)), (d, .inl (cI, 640, .inl C)), (v, .inl (cI, 640, .inl V))] := hD
        have hok : mo_okB st mv cl = 1 := by rw [mo_okB, if_neg c_1, if_neg c_3, if_pos c_5]
        refine lv_aload_n hx hb dX1_begin_40 rfl (lv_at hl 0 rfl) ?_
        refine va_get (D := (dC, dI)) (ci := 1) (v := .int (nI 1)) (C := RX1) (T := TX1) (N := 7) hx hb hts hinX1 hown hK hP 0 rfl rfl 0 (by decide) hf26 (fun _ h9 => h9) rfl dX1_begin_41 ?_
        refine lv_if_le (tgt := 49) hx hb dX1_begin_44 (by decide) (fun c_6 => ?_) (fun c_6 => ?_)
        · exact absurd c_6 (by decide)
        · refine lv_iconst (v := nI 0) hx hb dX1_begin_47 (by decide) ?_
          exact wr_ret hx hb hr hlocks (by rw [hok]; rfl) (by rw [hok]; rfl) hP hK hD hS dX1_begin_48
      · refine lv_iload hx hb dX1_begin_19 (lv_at hl 4 rfl) ?_
        refine lv_if_lt (tgt := 36) hx hb dX1_begin_21 (by decide) (fun c_7 => ?_) (fun c_7 => ?_)
        · refine lv_iconst (v := nI 1) hx hb dX1_begin_36 (by decide) ?_
          refine va_put (D := (dC, dI)) (ci := 1) (v := .int (nI 1)) (ty := .int) (C := RX1) (T := TX1) (N := 7) hx hb hts hinX1 tyX1 tyX1_ok nmX1 hown hK hP hD hS 0 rfl rfl 0 (by decide) hf26 (fun _ h9 => h9) rfl (by decide +kernel) rfl rfl (Nat.le_of_ble_eq_true rfl) dX1_begin_37 (fun H locs hP hD hS => ?_)
          replace hP : va_P (dC, dI) vwCl [(y, .inr (1, [.int (nI 1), .ref a, .int (nI n), .ref b, .ref c9, .ref d, .ref v])), (a, .inl (cI, 64, .inl N)), (b, .inl (cI, 40960, .inl M)), (c9, .inl (cI, 640, .inl S)), (d, .inl (cI, 640, .inl C)), (v, .inl (cI, 640, .inl V))] H := hP
          replace hD : va_D A [(y, .inr (1, [.int (nI 1), .ref a, .int (nI n), .ref b, .ref c9, .ref d, .ref v])), (a, .inl (cI, 64, .inl N)), (b, .inl (cI, 40960, .inl M)), (c9, .inl (cI, 640, .inl S)), (d, .inl (cI, 640, .inl C)), (v, .inl (cI, 640, .inl V))] := hD
          have hok : mo_okB st mv cl = 1 := by rw [mo_okB, if_neg c_1, if_neg c_3, if_neg c_5, if_pos c_7]
          refine lv_aload_n hx hb dX1_begin_40 rfl (lv_at hl 0 rfl) ?_
          refine va_get (D := (dC, dI)) (ci := 1) (v := .int (nI 1)) (C := RX1) (T := TX1) (N := 7) hx hb hts hinX1 hown hK hP 0 rfl rfl 0 (by decide) hf26 (fun _ h9 => h9) rfl dX1_begin_41 ?_
          refine lv_if_le (tgt := 49) hx hb dX1_begin_44 (by decide) (fun c_8 => ?_) (fun c_8 => ?_)
          · exact absurd c_8 (by decide)
          · refine lv_iconst (v := nI 0) hx hb dX1_begin_47 (by decide) ?_
            exact wr_ret hx hb hr hlocks (by rw [hok]; rfl) (by rw [hok]; rfl) hP hK hD hS dX1_begin_48
        · refine lv_iload hx hb dX1_begin_24 (lv_at hl 4 rfl) ?_
          refine lv_sipush (v := nI 1000) hx hb dX1_begin_26 (by decide) ?_
          refine lv_icmp_gt (tgt := 36) hx hb dX1_begin_29 (by decide) (fun c_9 => ?_) (fun c_9 => ?_)
          · refine lv_iconst (v := nI 1) hx hb dX1_begin_36 (by decide) ?_
            refine va_put (D := (dC, dI)) (ci := 1) (v := .int (nI 1)) (ty := .int) (C := RX1) (T := TX1) (N := 7) hx hb hts hinX1 tyX1 tyX1_ok nmX1 hown hK hP hD hS 0 rfl rfl 0 (by decide) hf26 (fun _ h9 => h9) rfl (by decide +kernel) rfl rfl (Nat.le_of_ble_eq_true rfl) dX1_begin_37 (fun H locs hP hD hS => ?_)
            replace hP : va_P (dC, dI) vwCl [(y, .inr (1, [.int (nI 1), .ref a, .int (nI n), .ref b, .ref c9, .ref d, .ref v])), (a, .inl (cI, 64, .inl N)), (b, .inl (cI, 40960, .inl M)), (c9, .inl (cI, 640, .inl S)), (d, .inl (cI, 640, .inl C)), (v, .inl (cI, 640, .inl V))] H := hP
            replace hD : va_D A [(y, .inr (1, [.int (nI 1), .ref a, .int (nI n), .ref b, .ref c9, .ref d, .ref v])), (a, .inl (cI, 64, .inl N)), (b, .inl (cI, 40960, .inl M)), (c9, .inl (cI, 640, .inl S)), (d, .inl (cI, 640, .inl C)), (v, .inl (cI, 640, .inl V))] := hD
            have hok : mo_okB st mv cl = 1 := by rw [mo_okB, if_neg c_1, if_neg c_3, if_neg c_5, if_neg c_7, if_pos c_9]
            refine lv_aload_n hx hb dX1_begin_40 rfl (lv_at hl 0 rfl) ?_
            refine va_get (D := (dC, dI)) (ci := 1) (v := .int (nI 1)) (C := RX1) (T := TX1) (N := 7) hx hb hts hinX1 hown hK hP 0 rfl rfl 0 (by decide) hf26 (fun _ h9 => h9) rfl dX1_begin_41 ?_
            refine lv_if_le (tgt := 49) hx hb dX1_begin_44 (by decide) (fun c_10 => ?_) (fun c_10 => ?_)
            · exact absurd c_10 (by decide)
            · refine lv_iconst (v := nI 0) hx hb dX1_begin_47 (by decide) ?_
              exact wr_ret hx hb hr hlocks (by rw [hok]; rfl) (by rw [hok]; rfl) hP hK hD hS dX1_begin_48
          · refine lv_iconst (v := nI 0) hx hb dX1_begin_32 (by decide) ?_
            refine lv_goto (tgt := 37) hx hb dX1_begin_33 (by decide) ?_
            refine va_put (D := (dC, dI)) (ci := 1) (v := .int (nI 0)) (ty := .int) (C := RX1) (T := TX1) (N := 7) hx hb hts hinX1 tyX1 tyX1_ok nmX1 hown hK hP hD hS 0 rfl rfl 0 (by decide) hf26 (fun _ h9 => h9) rfl (by decide +kernel) rfl rfl (Nat.le_of_ble_eq_true rfl) dX1_begin_37 (fun H locs hP hD hS => ?_)
            replace hP : va_P (dC, dI) vwCl [(y, .inr (1, [.int (nI 0), .ref a, .int (nI n), .ref b, .ref c9, .ref d, .ref v])), (a, .inl (cI, 64, .inl N)), (b, .inl (cI, 40960, .inl M)), (c9, .inl (cI, 640, .inl S)), (d, .inl (cI, 640, .inl C)), (v, .inl (cI, 640, .inl V))] H := hP
            replace hD : va_D A [(y, .inr (1, [.int (nI 0), .ref a, .int (nI n), .ref b, .ref c9, .ref d, .ref v])), (a, .inl (cI, 64, .inl N)), (b, .inl (cI, 40960, .inl M)), (c9, .inl (cI, 640, .inl S)), (d, .inl (cI, 640, .inl C)), (v, .inl (cI, 640, .inl V))] := hD
            have hok : mo_okB st mv cl = 0 := by rw [mo_okB, if_neg c_1, if_neg c_3, if_neg c_5, if_neg c_7, if_neg c_9]
            refine lv_aload_n hx hb dX1_begin_40 rfl (lv_at hl 0 rfl) ?_
            refine va_get (D := (dC, dI)) (ci := 1) (v := .int (nI 0)) (C := RX1) (T := TX1) (N := 7) hx hb hts hinX1 hown hK hP 0 rfl rfl 0 (by decide) hf26 (fun _ h9 => h9) rfl dX1_begin_41 ?_
            refine lv_if_le (tgt := 49) hx hb dX1_begin_44 (by decide) (fun c_11 => ?_) (fun c_11 => ?_)
            · refine lv_aload_n hx hb dX1_begin_49 rfl (lv_at hl 0 rfl) ?_
              refine lv_iconst (v := nI 0) hx hb dX1_begin_50 (by decide) ?_
              refine va_put (D := (dC, dI)) (ci := 1) (v := .int (nI 0)) (ty := .int) (C := RX1) (T := TX1) (N := 7) hx hb hts hinX1 tyX1 tyX1_ok nmX1 hown hK hP hD hS 0 rfl rfl 2 (by decide) hf53 (fun _ h9 => h9) rfl (by decide +kernel) rfl rfl (Nat.le_of_ble_eq_true rfl) dX1_begin_51 (fun H locs hP hD hS => ?_)
              replace hP : va_P (dC, dI) vwCl [(y, .inr (1, [.int (nI 0), .ref a, .int (nI 0), .ref b, .ref c9, .ref d, .ref v])), (a, .inl (cI, 64, .inl N)), (b, .inl (cI, 40960, .inl M)), (c9, .inl (cI, 640, .inl S)), (d, .inl (cI, 640, .inl C)), (v, .inl (cI, 640, .inl V))] H := hP
              replace hD : va_D A [(y, .inr (1, [.int (nI 0), .ref a, .int (nI 0), .ref b, .ref c9, .ref d, .ref v])), (a, .inl (cI, 64, .inl N)), (b, .inl (cI, 40960, .inl M)), (c9, .inl (cI, 640, .inl S)), (d, .inl (cI, 640, .inl C)), (v, .inl (cI, 640, .inl V))] := hD
              refine lv_aload_n hx hb dX1_begin_54 rfl (lv_at hl 0 rfl) ?_
              refine lv_iload_n hx hb dX1_begin_55 rfl (lv_at hl 1 rfl) ?_
              refine lv_iload_n hx hb dX1_begin_56 rfl (lv_at hl 2 rfl) ?_
              refine lv_iload_n hx hb dX1_begin_57 rfl (lv_at hl 3 rfl) ?_
              refine lv_iload hx hb dX1_begin_58 (lv_at hl 4 rfl) ?_
              refine wr_callV (rest := []) (ws' := [(y, .inr (1, [.int (nI 0), .ref a, .int (nI (0 + 1)), .ref b, .ref c9, .ref d, .ref v])), (a, .inl (cI, 64, .inl N)), (b, .inl (cI, 40960, .inl (mo_adM M N 0 64))), (c9, .inl (cI, 640, .inl (upd S 0 st))), (d, .inl (cI, 640, .inl (upd C 0 cl))), (v, .inl (cI, 640, .inl (upd V 0 (mo_ver (upd S 0 st) (mo_adM M N 0 64) (upd C 0 cl) 0 mv ck))))]) (wrst := []) ⟨hx, hb, hml, hown, hts⟩ (k_X1_add l dC dI cI y a b c9 d v (nI 0) N 0 M S C V st mv ck cl H.size (by omega)) (cwV 4 hts gX1_begin_X1_add rfl rfl rfl (by decide +kernel) ⟨Nat.le_of_ble_eq_true rfl, Nat.le_of_ble_eq_true rfl⟩) hK hP hD hS hA [0, 1, 2, 3, 4, 5] [] rfl rfl (by decide) (by decide) (by decide) rfl (q0 := 0) rfl rfl hl.1 rfl (Nat.le_of_ble_eq_true rfl) dX1_begin_60 ⟨Nat.zero_le _, Nat.zero_le _⟩ (fun r_12 H locs hr_12 hP hD hS => ?_)
              have hP : va_P (dC, dI) vwCl [(y, .inr (1, [.int (nI 0), .ref a, .int (nI (0 + 1)), .ref b, .ref c9, .ref d, .ref v])), (a, .inl (cI, 64, .inl N)), (b, .inl (cI, 40960, .inl (mo_adM M N 0 64))), (c9, .inl (cI, 640, .inl (upd S 0 st))), (d, .inl (cI, 640, .inl (upd C 0 cl))), (v, .inl (cI, 640, .inl (upd V 0 (mo_ver (upd S 0 st) (mo_adM M N 0 64) (upd C 0 cl) 0 mv ck))))] H := hP
              have hD : va_D A [(y, .inr (1, [.int (nI 0), .ref a, .int (nI (0 + 1)), .ref b, .ref c9, .ref d, .ref v])), (a, .inl (cI, 64, .inl N)), (b, .inl (cI, 40960, .inl (mo_adM M N 0 64))), (c9, .inl (cI, 640, .inl (upd S 0 st))), (d, .inl (cI, 640, .inl (upd C 0 cl))), (v, .inl (cI, 640, .inl (upd V 0 (mo_ver (upd S 0 st) (mo_adM M N 0 64) (upd C 0 cl) 0 mv ck))))] := hD
              refine lv_is hr_12 ?_
              exact wr_ret hx hb hr hlocks (by rw [hok]; rfl) (by rw [hok]; rfl) hP hK hD hS dX1_begin_63
            · exact absurd (by decide) c_11
set_option maxHeartbeats 4000000 in
set_option maxRecDepth 100000 in
theorem k_X1_next (l : Launch) (dC : Nat → ClassId) (dI : Nat → Nat → Nat) (cI : ClassId) (y a b c9 d v : Nat) (th : Int32) (N : Nat → Int32) (n : Nat) (M S C V : Nat → Int32) (st mv ck ir : Int32) (sz : Nat) (hn : n ≤ 640) : Met l yX1_next wsX1_next ({ frames := 4, cells := 0, slots := 0, locals := 98 } : Room) (wr (dC, dI) (wM cI y a b c9 d v th N n M S C V) (tM cI) sz [.ref y, .int st, .int mv, .int ck, .int ir]) (wrQ (dC, dI) (wM cI y a b c9 d v (nI (mo_okN V n st mv)) N (sel (mo_okN V n st mv) (n + 1) n) (sel (mo_okN V n st mv) (mo_adM M N n 64) M) (sel (mo_okN V n st mv) (upd S n st) S) (sel (mo_okN V n st mv) (upd C n (mo_clN C n ir)) C) (sel (mo_okN V n st mv) (upd V n (mo_ver (upd S n st) (mo_adM M N n 64) (upd C n (mo_clN C n ir)) n mv ck)) V)) (tM cI) (va_A (wM cI y a b c9 d v th N n M S C V) sz) (fun r => r = sel (mo_okN V n st mv) (mo_ver (upd S n st) (mo_adM M N n 64) (upd C n (mo_clN C n ir)) n mv ck) (nI 0))) 0 0 (va_A (wM cI y a b c9 d v th N n M S C V) sz) := by
  refine Met.ofW (cc := cX1_next) (maxL := 6) (ret := (some .int)) (by decide) rfl ?_
  intro p e s m args below meth c s₁ B hml hv
  obtain ⟨rfl, hsz, hP, hK, hD0⟩ := hv
  have hx := B.exec
  have hb := B.bytes
  have hr := B.returns
  have hts := atoms_spec (ws := wsX1_next) B.pre
  have hown : s.vm.findClass RX1 = some m.cls := findClass_of_methodNamed B.named
  have hlocks := B.notSynchronized
  have hinX1 : ∀ w ∈ u_ws RX1 TX1 7, w ∈ wsX1_next := by decide +kernel
  have hf20 := hts (.fieldLink RX1 20 "GameArbiterModel" "clocks" "[I") (by decide +kernel)
  have hf23 := hts (.fieldLink RX1 23 "GameArbiterModel" "verdicts" "[I") (by decide +kernel)
  have hf26 := hts (.fieldLink RX1 26 "GameArbiterModel" "thrown" "I") (by decide +kernel)
  have hf53 := hts (.fieldLink RX1 53 "GameArbiterModel" "many" "I") (by decide +kernel)
  have hl := lv_entry ([.ref y, .int st, .int mv, .int ck, .int ir]) (n := 6) (Nat.le_of_ble_eq_true rfl)
  rw [lg_entry_eq]
  generalize (lg_sl ([.ref y, .int st, .int mv, .int ck, .int ir]) ++ List.replicate (6 - (lg_sl ([.ref y, .int st, .int mv, .int ck, .int ir])).length) Slot.unset).toArray = ls at hl ⊢
  replace hl : lv_has ls 6 [(0, .ref y), (1, .int st), (2, .int mv), (3, .int ck), (4, .int ir)] := hl
  subst hsz
  have hD := hD0.self (sz := s.heap.size)
  generalize hAe : va_A (wM cI y a b c9 d v th N n M S C V) s.heap.size = A at hD ⊢
  have hA : ∀ q : Nat, s.heap.size ≤ q → A q := fun q h => by rw [← hAe]; exact Or.inr h
  have hS : va_S A s.heap s.heap [] := va_S.rf
  replace hP : va_P (dC, dI) vwCl [(y, .inr (1, [.int th, .ref a, .int (nI n), .ref b, .ref c9, .ref d, .ref v])), (a, .inl (cI, 64, .inl N)), (b, .inl (cI, 40960, .inl M)), (c9, .inl (cI, 640, .inl S)), (d, .inl (cI, 640, .inl C)), (v, .inl (cI, 640, .inl V))] s.heap := hP
  replace hD : va_D A [(y, .inr (1, [.int th, .ref a, .int (nI n), .ref b, .ref c9, .ref d, .ref v])), (a, .inl (cI, 64, .inl N)), (b, .inl (cI, 40960, .inl M)), (c9, .inl (cI, 640, .inl S)), (d, .inl (cI, 640, .inl C)), (v, .inl (cI, 640, .inl V))] := hD
  refine lv_aload_n hx hb dX1_next_0 rfl (lv_at hl 0 rfl) ?_
  refine va_get (D := (dC, dI)) (ci := 1) (v := .int (nI n)) (C := RX1) (T := TX1) (N := 7) hx hb hts hinX1 hown hK hP 0 rfl rfl 2 (by decide) hf53 (fun _ h9 => h9) rfl dX1_next_1 ?_
  refine lv_if_eq (tgt := 17) hx hb dX1_next_4 (by decide) (fun c_1 => ?_) (fun c_1 => ?_)
  · have c_1 : n = 0 := (nz_eq (show n < 2 ^ 31 by omega)).mp c_1
    refine lv_iconst (v := nI 1) hx hb dX1_next_17 (by decide) ?_
    refine lv_goto (tgt := 22) hx hb dX1_next_18 (by decide) ?_
    refine lv_istore (lv' := [(5, .int (nI 1)), (0, .ref y), (1, .int st), (2, .int mv), (3, .int ck), (4, .int ir)]) hx hb dX1_next_22 hl (by decide) rfl (fun ls hl => ?_)
    refine lv_iload hx hb dX1_next_24 (lv_at hl 0 rfl) ?_
    refine lv_if_ne (tgt := 59) hx hb dX1_next_26 (by decide) (fun c_2 => ?_) (fun c_2 => ?_)
    · refine lv_iconst (v := nI 1) hx hb dX1_next_59 (by decide) ?_
      refine lv_goto (tgt := 64) hx hb dX1_next_60 (by decide) ?_
      refine lv_istore (lv' := [(5, .int (nI 1)), (0, .ref y), (1, .int st), (2, .int mv), (3, .int ck), (4, .int ir)]) hx hb dX1_next_64 hl (by decide) rfl (fun ls hl => ?_)
      refine lv_aload_n hx hb dX1_next_66 rfl (lv_at hl 1 rfl) ?_
      refine lv_iload hx hb dX1_next_67 (lv_at hl 0 rfl) ?_
      refine lv_if_eq (tgt := 76) hx hb dX1_next_69 (by decide) (fun c_3 => ?_) (fun c_3 => ?_)
      · exact absurd c_3 (by decide)
      · refine lv_iconst (v := nI 1) hx hb dX1_next_72 (by decide) ?_
        refine lv_goto (tgt := 99) hx hb dX1_next_73 (by decide) ?_
        refine va_put (D := (dC, dI)) (ci := 1) (v := .int (nI 1)) (ty := .int) (C := RX1) (T := TX1) (N := 7) hx hb hts hinX1 tyX1 tyX1_ok nmX1 hown hK hP hD hS 0 rfl rfl 0 (by decide) hf26 (fun _ h9 => h9) rfl (by decide +kernel) rfl rfl (Nat.le_of_ble_eq_true rfl) dX1_next_99 (fun H locs hP hD hS => ?_)
        replace hP : va_P (dC, dI) vwCl [(y, .inr (1, [.int (nI 1), .ref a, .int (nI n), .ref b, .ref c9, .ref d, .ref v])), (a, .inl (cI, 64, .inl N)), (b, .inl (cI, 40960, .inl M)), (c9, .inl (cI, 640, .inl S)), (d, .inl (cI, 640, .inl C)), (v, .inl (cI, 640, .inl V))] H := hP
        replace hD : va_D A [(y, .inr (1, [.int (nI 1), .ref a, .int (nI n), .ref b, .ref c9, .ref d, .ref v])), (a, .inl (cI, 64, .inl N)), (b, .inl (cI, 40960, .inl M)), (c9, .inl (cI, 640, .inl S)), (d, .inl (cI, 640, .inl C)), (v, .inl (cI, 640, .inl V))] := hD
        have hok : mo_okN V n st mv = 1 := by rw [mo_okN, if_pos c_1]
        refine lv_aload_n hx hb dX1_next_102 rfl (lv_at hl 1 rfl) ?_
        refine va_get (D := (dC, dI)) (ci := 1) (v := .int (nI 1)) (C := RX1) (T := TX1) (N := 7) hx hb hts hinX1 hown hK hP 0 rfl rfl 0 (by decide) hf26 (fun _ h9 => h9) rfl dX1_next_103 ?_
        refine lv_if_le (tgt := 111) hx hb dX1_next_106 (by decide) (fun c_4 => ?_) (fun c_4 => ?_)
        · exact absurd c_4 (by decide)
        · refine lv_iconst (v := nI 0) hx hb dX1_next_109 (by decide) ?_
          exact wr_ret hx hb hr hlocks (by rw [hok]; rfl) (by rw [hok]; rfl) hP hK hD hS dX1_next_110
    · exact absurd c_2 (by decide)
  · have c_1 : ¬ (n = 0) := fun h => c_1 ((nz_eq (show n < 2 ^ 31 by omega)).mpr h)
    refine lv_aload_n hx hb dX1_next_7 rfl (lv_at hl 0 rfl) ?_
    refine va_get (D := (dC, dI)) (ci := 1) (v := .int (nI n)) (C := RX1) (T := TX1) (N := 7) hx hb hts hinX1 hown hK hP 0 rfl rfl 2 (by decide) hf53 (fun _ h9 => h9) rfl dX1_next_8 ?_
    refine lv_sipush (v := nI 640) hx hb dX1_next_11 (by decide) ?_
    refine lv_icmp_ne (tgt := 21) hx hb dX1_next_14 (by decide) (fun c_5 => ?_) (fun c_5 => ?_)
    · have c_5 : ¬ (n = 640) := fun h => c_5 ((nI_eq (show n < 2 ^ 31 by omega) (show 640 < 2 ^ 31 by omega)).mpr h)
      refine lv_iconst (v := nI 0) hx hb dX1_next_21 (by decide) ?_
      refine lv_istore (lv' := [(5, .int (nI 0)), (0, .ref y), (1, .int st), (2, .int mv), (3, .int ck), (4, .int ir)]) hx hb dX1_next_22 hl (by decide) rfl (fun ls hl => ?_)
      refine lv_iload hx hb dX1_next_24 (lv_at hl 0 rfl) ?_
      refine lv_if_ne (tgt := 59) hx hb dX1_next_26 (by decide) (fun c_6 => ?_) (fun c_6 => ?_)
      · exact absurd (by decide) c_6
      · refine lv_aload_n hx hb dX1_next_29 rfl (lv_at hl 1 rfl) ?_
        refine va_get (D := (dC, dI)) (ci := 1) (v := .ref v) (C := RX1) (T := TX1) (N := 7) hx hb hts hinX1 hown hK hP 0 rfl rfl 6 (by decide) hf23 (fun _ h9 => h9) rfl dX1_next_30 ?_
        refine lv_aload_n hx hb dX1_next_33 rfl (lv_at hl 1 rfl) ?_
        refine va_get (D := (dC, dI)) (ci := 1) (v := .int (nI n)) (C := RX1) (T := TX1) (N := 7) hx hb hts hinX1 hown hK hP 0 rfl rfl 2 (by decide) hf53 (fun _ h9 => h9) rfl dX1_next_34 ?_
        refine lv_iconst (v := nI 1) hx hb dX1_next_37 (by decide) ?_
        refine lv_isub hx hb dX1_next_38 ?_
        refine lv_is (pk_sub (by omega)) ?_
        refine ix_iald hx hb hK hP 5 0 rfl rfl (show n - 1 < 640 by omega) (by decide) dX1_next_39 ?_
        refine lv_if_le (tgt := 63) hx hb dX1_next_40 (by decide) (fun c_7 => ?_) (fun c_7 => ?_)
        · refine lv_iconst (v := nI 0) hx hb dX1_next_63 (by decide) ?_
          refine lv_istore (lv' := [(5, .int (nI 0)), (0, .ref y), (1, .int st), (2, .int mv), (3, .int ck), (4, .int ir)]) hx hb dX1_next_64 hl (by decide) rfl (fun ls hl => ?_)
          refine lv_aload_n hx hb dX1_next_66 rfl (lv_at hl 1 rfl) ?_
          refine lv_iload hx hb dX1_next_67 (lv_at hl 0 rfl) ?_
          refine lv_if_eq (tgt := 76) hx hb dX1_next_69 (by decide) (fun c_8 => ?_) (fun c_8 => ?_)
          · refine lv_iload_n hx hb dX1_next_76 rfl (lv_at hl 2 rfl) ?_
            refine pu_callS (rest := [.ref y]) ⟨hx, hb, hml, hown, hts⟩ (k_X1_isState l st) (va_cwS 1 hts gX1_next_X1_isState rfl rfl rfl (by decide +kernel) ⟨Nat.le_of_ble_eq_true rfl, Nat.le_of_ble_eq_true rfl⟩) rfl hl.1 rfl (Nat.le_of_ble_eq_true rfl) dX1_next_77 ⟨Nat.zero_le _, Nat.zero_le _⟩ ?_
            refine lv_if_eq (tgt := 98) hx hb dX1_next_80 (by decide) (fun c_9 => ?_) (fun c_9 => ?_)
            · refine lv_iconst (v := nI 2) hx hb dX1_next_98 (by decide) ?_
              refine va_put (D := (dC, dI)) (ci := 1) (v := .int (nI 2)) (ty := .int) (C := RX1) (T := TX1) (N := 7) hx hb hts hinX1 tyX1 tyX1_ok nmX1 hown hK hP hD hS 0 rfl rfl 0 (by decide) hf26 (fun _ h9 => h9) rfl (by decide +kernel) rfl rfl (Nat.le_of_ble_eq_true rfl) dX1_next_99 (fun H locs hP hD hS => ?_)
              replace hP : va_P (dC, dI) vwCl [(y, .inr (1, [.int (nI 2), .ref a, .int (nI n), .ref b, .ref c9, .ref d, .ref v])), (a, .inl (cI, 64, .inl N)), (b, .inl (cI, 40960, .inl M)), (c9, .inl (cI, 640, .inl S)), (d, .inl (cI, 640, .inl C)), (v, .inl (cI, 640, .inl V))] H := hP
              replace hD : va_D A [(y, .inr (1, [.int (nI 2), .ref a, .int (nI n), .ref b, .ref c9, .ref d, .ref v])), (a, .inl (cI, 64, .inl N)), (b, .inl (cI, 40960, .inl M)), (c9, .inl (cI, 640, .inl S)), (d, .inl (cI, 640, .inl C)), (v, .inl (cI, 640, .inl V))] := hD
              have hok : mo_okN V n st mv = 2 := by rw [mo_okN, if_neg c_1, if_neg c_5, if_pos c_7]; rw [mo_okA, if_pos c_9]
              refine lv_aload_n hx hb dX1_next_102 rfl (lv_at hl 1 rfl) ?_
              refine va_get (D := (dC, dI)) (ci := 1) (v := .int (nI 2)) (C := RX1) (T := TX1) (N := 7) hx hb hts hinX1 hown hK hP 0 rfl rfl 0 (by decide) hf26 (fun _ h9 => h9) rfl dX1_next_103 ?_
              refine lv_if_le (tgt := 111) hx hb dX1_next_106 (by decide) (fun c_10 => ?_) (fun c_10 => ?_)
              · exact absurd c_10 (by decide)
              · refine lv_iconst (v := nI 0) hx hb dX1_next_109 (by decide) ?_
                exact wr_ret hx hb hr hlocks (by rw [hok]; rfl) (by rw [hok]; rfl) hP hK hD hS dX1_next_110
            · refine lv_iload_n hx hb dX1_next_83 rfl (lv_at hl 3 rfl) ?_
              refine lv_if_lt (tgt := 98) hx hb dX1_next_84 (by decide) (fun c_11 => ?_) (fun c_11 => ?_)
              · refine lv_iconst (v := nI 2) hx hb dX1_next_98 (by decide) ?_
                refine va_put (D := (dC, dI)) (ci := 1) (v := .int (nI 2)) (ty := .int) (C := RX1) (T := TX1) (N := 7) hx hb hts hinX1 tyX1 tyX1_ok nmX1 hown hK hP hD hS 0 rfl rfl 0 (by decide) hf26 (fun _ h9 => h9) rfl (by decide +kernel) rfl rfl (Nat.le_of_ble_eq_true rfl) dX1_next_99 (fun H locs hP hD hS => ?_)
                replace hP : va_P (dC, dI) vwCl [(y, .inr (1, [.int (nI 2), .ref a, .int (nI n), .ref b, .ref c9, .ref d, .ref v])), (a, .inl (cI, 64, .inl N)), (b, .inl (cI, 40960, .inl M)), (c9, .inl (cI, 640, .inl S)), (d, .inl (cI, 640, .inl C)), (v, .inl (cI, 640, .inl V))] H := hP
                replace hD : va_D A [(y, .inr (1, [.int (nI 2), .ref a, .int (nI n), .ref b, .ref c9, .ref d, .ref v])), (a, .inl (cI, 64, .inl N)), (b, .inl (cI, 40960, .inl M)), (c9, .inl (cI, 640, .inl S)), (d, .inl (cI, 640, .inl C)), (v, .inl (cI, 640, .inl V))] := hD
                have hok : mo_okN V n st mv = 2 := by rw [mo_okN, if_neg c_1, if_neg c_5, if_pos c_7]; rw [mo_okA, if_neg c_9, if_pos c_11]
                refine lv_aload_n hx hb dX1_next_102 rfl (lv_at hl 1 rfl) ?_
                refine va_get (D := (dC, dI)) (ci := 1) (v := .int (nI 2)) (C := RX1) (T := TX1) (N := 7) hx hb hts hinX1 hown hK hP 0 rfl rfl 0 (by decide) hf26 (fun _ h9 => h9) rfl dX1_next_103 ?_
                refine lv_if_le (tgt := 111) hx hb dX1_next_106 (by decide) (fun c_12 => ?_) (fun c_12 => ?_)
                · exact absurd c_12 (by decide)
                · refine lv_iconst (v := nI 0) hx hb dX1_next_109 (by decide) ?_
                  exact wr_ret hx hb hr hlocks (by rw [hok]; rfl) (by rw [hok]; rfl) hP hK hD hS dX1_next_110
              · refine lv_iload_n hx hb dX1_next_87 rfl (lv_at hl 3 rfl) ?_
                refine lv_sipush (v := nI 300) hx hb dX1_next_88 (by decide) ?_
                refine lv_icmp_gt (tgt := 98) hx hb dX1_next_91 (by decide) (fun c_13 => ?_) (fun c_13 => ?_)
                · refine lv_iconst (v := nI 2) hx hb dX1_next_98 (by decide) ?_
                  refine va_put (D := (dC, dI)) (ci := 1) (v := .int (nI 2)) (ty := .int) (C := RX1) (T := TX1) (N := 7) hx hb hts hinX1 tyX1 tyX1_ok nmX1 hown hK hP hD hS 0 rfl rfl 0 (by decide) hf26 (fun _ h9 => h9) rfl (by decide +kernel) rfl rfl (Nat.le_of_ble_eq_true rfl) dX1_next_99 (fun H locs hP hD hS => ?_)
                  replace hP : va_P (dC, dI) vwCl [(y, .inr (1, [.int (nI 2), .ref a, .int (nI n), .ref b, .ref c9, .ref d, .ref v])), (a, .inl (cI, 64, .inl N)), (b, .inl (cI, 40960, .inl M)), (c9, .inl (cI, 640, .inl S)), (d, .inl (cI, 640, .inl C)), (v, .inl (cI, 640, .inl V))] H := hP
                  replace hD : va_D A [(y, .inr (1, [.int (nI 2), .ref a, .int (nI n), .ref b, .ref c9, .ref d, .ref v])), (a, .inl (cI, 64, .inl N)), (b, .inl (cI, 40960, .inl M)), (c9, .inl (cI, 640, .inl S)), (d, .inl (cI, 640, .inl C)), (v, .inl (cI, 640, .inl V))] := hD
                  have hok : mo_okN V n st mv = 2 := by rw [mo_okN, if_neg c_1, if_neg c_5, if_pos c_7]; rw [mo_okA, if_neg c_9, if_neg c_11, if_pos c_13]
                  refine lv_aload_n hx hb dX1_next_102 rfl (lv_at hl 1 rfl) ?_
                  refine va_get (D := (dC, dI)) (ci := 1) (v := .int (nI 2)) (C := RX1) (T := TX1) (N := 7) hx hb hts hinX1 hown hK hP 0 rfl rfl 0 (by decide) hf26 (fun _ h9 => h9) rfl dX1_next_103 ?_
                  refine lv_if_le (tgt := 111) hx hb dX1_next_106 (by decide) (fun c_14 => ?_) (fun c_14 => ?_)
                  · exact absurd c_14 (by decide)
                  · refine lv_iconst (v := nI 0) hx hb dX1_next_109 (by decide) ?_
                    exact wr_ret hx hb hr hlocks (by rw [hok]; rfl) (by rw [hok]; rfl) hP hK hD hS dX1_next_110
                · refine lv_iconst (v := nI 0) hx hb dX1_next_94 (by decide) ?_
                  refine lv_goto (tgt := 99) hx hb dX1_next_95 (by decide) ?_
                  refine va_put (D := (dC, dI)) (ci := 1) (v := .int (nI 0)) (ty := .int) (C := RX1) (T := TX1) (N := 7) hx hb hts hinX1 tyX1 tyX1_ok nmX1 hown hK hP hD hS 0 rfl rfl 0 (by decide) hf26 (fun _ h9 => h9) rfl (by decide +kernel) rfl rfl (Nat.le_of_ble_eq_true rfl) dX1_next_99 (fun H locs hP hD hS => ?_)
                  replace hP : va_P (dC, dI) vwCl [(y, .inr (1, [.int (nI 0), .ref a, .int (nI n), .ref b, .ref c9, .ref d, .ref v])), (a, .inl (cI, 64, .inl N)), (b, .inl (cI, 40960, .inl M)), (c9, .inl (cI, 640, .inl S)), (d, .inl (cI, 640, .inl C)), (v, .inl (cI, 640, .inl V))] H := hP
                  replace hD : va_D A [(y, .inr (1, [.int (nI 0), .ref a, .int (nI n), .ref b, .ref c9, .ref d, .ref v])), (a, .inl (cI, 64, .inl N)), (b, .inl (cI, 40960, .inl M)), (c9, .inl (cI, 640, .inl S)), (d, .inl (cI, 640, .inl C)), (v, .inl (cI, 640, .inl V))] := hD
                  have hok : mo_okN V n st mv = 0 := by rw [mo_okN, if_neg c_1, if_neg c_5, if_pos c_7]; rw [mo_okA, if_neg c_9, if_neg c_11, if_neg c_13]
                  refine lv_aload_n hx hb dX1_next_102 rfl (lv_at hl 1 rfl) ?_
                  refine va_get (D := (dC, dI)) (ci := 1) (v := .int (nI 0)) (C := RX1) (T := TX1) (N := 7) hx hb hts hinX1 hown hK hP 0 rfl rfl 0 (by decide) hf26 (fun _ h9 => h9) rfl dX1_next_103 ?_
                  refine lv_if_le (tgt := 111) hx hb dX1_next_106 (by decide) (fun c_15 => ?_) (fun c_15 => ?_)
                  · refine lv_aload_n hx hb dX1_next_111 rfl (lv_at hl 1 rfl) ?_
                    refine lv_iload_n hx hb dX1_next_112 rfl (lv_at hl 2 rfl) ?_
                    refine lv_iload_n hx hb dX1_next_113 rfl (lv_at hl 3 rfl) ?_
                    refine lv_iload_n hx hb dX1_next_114 rfl (lv_at hl 4 rfl) ?_
                    refine lv_iload hx hb dX1_next_115 (lv_at hl 5 rfl) ?_
                    refine lv_if_eq (tgt := 124) hx hb dX1_next_117 (by decide) (fun c_16 => ?_) (fun c_16 => ?_)
                    · refine lv_aload_n hx hb dX1_next_124 rfl (lv_at hl 1 rfl) ?_
                      refine va_get (D := (dC, dI)) (ci := 1) (v := .ref d) (C := RX1) (T := TX1) (N := 7) hx hb hts hinX1 hown hK hP 0 rfl rfl 5 (by decide) hf20 (fun _ h9 => h9) rfl dX1_next_125 ?_
                      refine lv_aload_n hx hb dX1_next_128 rfl (lv_at hl 1 rfl) ?_
                      refine va_get (D := (dC, dI)) (ci := 1) (v := .int (nI n)) (C := RX1) (T := TX1) (N := 7) hx hb hts hinX1 hown hK hP 0 rfl rfl 2 (by decide) hf53 (fun _ h9 => h9) rfl dX1_next_129 ?_
                      refine lv_iconst (v := nI 1) hx hb dX1_next_132 (by decide) ?_
                      refine lv_isub hx hb dX1_next_133 ?_
                      refine lv_is (pk_sub (by omega)) ?_
                      refine ix_iald hx hb hK hP 4 0 rfl rfl (show n - 1 < 640 by omega) (by decide) dX1_next_134 ?_
                      refine lv_iconst (v := nI 1) hx hb dX1_next_135 (by decide) ?_
                      refine lv_iadd hx hb dX1_next_136 ?_
                      refine lv_is (show (C (n - 1)) + (nI 1) = mo_clN C n ir from by rw [mo_clN, if_pos c_16]) ?_
                      refine wr_callV (rest := []) (ws' := [(y, .inr (1, [.int (nI 0), .ref a, .int (nI (n + 1)), .ref b, .ref c9, .ref d, .ref v])), (a, .inl (cI, 64, .inl N)), (b, .inl (cI, 40960, .inl (mo_adM M N n 64))), (c9, .inl (cI, 640, .inl (upd S n st))), (d, .inl (cI, 640, .inl (upd C n (mo_clN C n ir)))), (v, .inl (cI, 640, .inl (upd V n (mo_ver (upd S n st) (mo_adM M N n 64) (upd C n (mo_clN C n ir)) n mv ck))))]) (wrst := []) ⟨hx, hb, hml, hown, hts⟩ (k_X1_add l dC dI cI y a b c9 d v (nI 0) N n M S C V st mv ck (mo_clN C n ir) H.size (by omega)) (cwV 4 hts gX1_next_X1_add rfl rfl rfl (by decide +kernel) ⟨Nat.le_of_ble_eq_true rfl, Nat.le_of_ble_eq_true rfl⟩) hK hP hD hS hA [0, 1, 2, 3, 4, 5] [] rfl rfl (by decide) (by decide) (by decide) rfl (q0 := 0) rfl rfl hl.1 rfl (Nat.le_of_ble_eq_true rfl) dX1_next_137 ⟨Nat.zero_le _, Nat.zero_le _⟩ (fun r_17 H locs hr_17 hP hD hS => ?_)
                      have hP : va_P (dC, dI) vwCl [(y, .inr (1, [.int (nI 0), .ref a, .int (nI (n + 1)), .ref b, .ref c9, .ref d, .ref v])), (a, .inl (cI, 64, .inl N)), (b, .inl (cI, 40960, .inl (mo_adM M N n 64))), (c9, .inl (cI, 640, .inl (upd S n st))), (d, .inl (cI, 640, .inl (upd C n (mo_clN C n ir)))), (v, .inl (cI, 640, .inl (upd V n (mo_ver (upd S n st) (mo_adM M N n 64) (upd C n (mo_clN C n ir)) n mv ck))))] H := hP
                      have hD : va_D A [(y, .inr (1, [.int (nI 0), .ref a, .int (nI (n + 1)), .ref b, .ref c9, .ref d, .ref v])), (a, .inl (cI, 64, .inl N)), (b, .inl (cI, 40960, .inl (mo_adM M N n 64))), (c9, .inl (cI, 640, .inl (upd S n st))), (d, .inl (cI, 640, .inl (upd C n (mo_clN C n ir)))), (v, .inl (cI, 640, .inl (upd V n (mo_ver (upd S n st) (mo_adM M N n 64) (upd C n (mo_clN C n ir)) n mv ck))))] := hD
                      refine lv_is hr_17 ?_
                      exact wr_ret hx hb hr hlocks (by rw [hok]; rfl) (by rw [hok]; rfl) hP hK hD hS dX1_next_140
                    · refine lv_iconst (v := nI 0) hx hb dX1_next_120 (by decide) ?_
                      refine lv_goto (tgt := 137) hx hb dX1_next_121 (by decide) ?_
                      refine lv_is (show nI 0 = mo_clN C n ir from by rw [mo_clN, if_neg c_16]) ?_
                      refine wr_callV (rest := []) (ws' := [(y, .inr (1, [.int (nI 0), .ref a, .int (nI (n + 1)), .ref b, .ref c9, .ref d, .ref v])), (a, .inl (cI, 64, .inl N)), (b, .inl (cI, 40960, .inl (mo_adM M N n 64))), (c9, .inl (cI, 640, .inl (upd S n st))), (d, .inl (cI, 640, .inl (upd C n (mo_clN C n ir)))), (v, .inl (cI, 640, .inl (upd V n (mo_ver (upd S n st) (mo_adM M N n 64) (upd C n (mo_clN C n ir)) n mv ck))))]) (wrst := []) ⟨hx, hb, hml, hown, hts⟩ (k_X1_add l dC dI cI y a b c9 d v (nI 0) N n M S C V st mv ck (mo_clN C n ir) H.size (by omega)) (cwV 4 hts gX1_next_X1_add rfl rfl rfl (by decide +kernel) ⟨Nat.le_of_ble_eq_true rfl, Nat.le_of_ble_eq_true rfl⟩) hK hP hD hS hA [0, 1, 2, 3, 4, 5] [] rfl rfl (by decide) (by decide) (by decide) rfl (q0 := 0) rfl rfl hl.1 rfl (Nat.le_of_ble_eq_true rfl) dX1_next_137 ⟨Nat.zero_le _, Nat.zero_le _⟩ (fun r_18 H locs hr_18 hP hD hS => ?_)
                      have hP : va_P (dC, dI) vwCl [(y, .inr (1, [.int (nI 0), .ref a, .int (nI (n + 1)), .ref b, .ref c9, .ref d, .ref v])), (a, .inl (cI, 64, .inl N)), (b, .inl (cI, 40960, .inl (mo_adM M N n 64))), (c9, .inl (cI, 640, .inl (upd S n st))), (d, .inl (cI, 640, .inl (upd C n (mo_clN C n ir)))), (v, .inl (cI, 640, .inl (upd V n (mo_ver (upd S n st) (mo_adM M N n 64) (upd C n (mo_clN C n ir)) n mv ck))))] H := hP
                      have hD : va_D A [(y, .inr (1, [.int (nI 0), .ref a, .int (nI (n + 1)), .ref b, .ref c9, .ref d, .ref v])), (a, .inl (cI, 64, .inl N)), (b, .inl (cI, 40960, .inl (mo_adM M N n 64))), (c9, .inl (cI, 640, .inl (upd S n st))), (d, .inl (cI, 640, .inl (upd C n (mo_clN C n ir)))), (v, .inl (cI, 640, .inl (upd V n (mo_ver (upd S n st) (mo_adM M N n 64) (upd C n (mo_clN C n ir)) n mv ck))))] := hD
                      refine lv_is hr_18 ?_
                      exact wr_ret hx hb hr hlocks (by rw [hok]; rfl) (by rw [hok]; rfl) hP hK hD hS dX1_next_140
                  · exact absurd (by decide) c_15
          · exact absurd (by decide) c_8
        · refine lv_aload_n hx hb dX1_next_43 rfl (lv_at hl 1 rfl) ?_
          refine va_get (D := (dC, dI)) (ci := 1) (v := .ref v) (C := RX1) (T := TX1) (N := 7) hx hb hts hinX1 hown hK hP 0 rfl rfl 6 (by decide) hf23 (fun _ h9 => h9) rfl dX1_next_44 ?_
          refine lv_aload_n hx hb dX1_next_47 rfl (lv_at hl 1 rfl) ?_
          refine va_get (D := (dC, dI)) (ci := 1) (v := .int (nI n)) (C := RX1) (T := TX1) (N := 7) hx hb hts hinX1 hown hK hP 0 rfl rfl 2 (by decide) hf53 (fun _ h9 => h9) rfl dX1_next_48 ?_
          refine lv_iconst (v := nI 1) hx hb dX1_next_51 (by decide) ?_
          refine lv_isub hx hb dX1_next_52 ?_
          refine lv_is (pk_sub (by omega)) ?_
          refine ix_iald hx hb hK hP 5 0 rfl rfl (show n - 1 < 640 by omega) (by decide) dX1_next_53 ?_
          refine lv_bipush (v := nI 6) hx hb dX1_next_54 (by decide) ?_
          refine lv_icmp_ge (tgt := 63) hx hb dX1_next_56 (by decide) (fun c_19 => ?_) (fun c_19 => ?_)
          · refine lv_iconst (v := nI 0) hx hb dX1_next_63 (by decide) ?_
            refine lv_istore (lv' := [(5, .int (nI 0)), (0, .ref y), (1, .int st), (2, .int mv), (3, .int ck), (4, .int ir)]) hx hb dX1_next_64 hl (by decide) rfl (fun ls hl => ?_)
            refine lv_aload_n hx hb dX1_next_66 rfl (lv_at hl 1 rfl) ?_
            refine lv_iload hx hb dX1_next_67 (lv_at hl 0 rfl) ?_
            refine lv_if_eq (tgt := 76) hx hb dX1_next_69 (by decide) (fun c_20 => ?_) (fun c_20 => ?_)
            · refine lv_iload_n hx hb dX1_next_76 rfl (lv_at hl 2 rfl) ?_
              refine pu_callS (rest := [.ref y]) ⟨hx, hb, hml, hown, hts⟩ (k_X1_isState l st) (va_cwS 1 hts gX1_next_X1_isState rfl rfl rfl (by decide +kernel) ⟨Nat.le_of_ble_eq_true rfl, Nat.le_of_ble_eq_true rfl⟩) rfl hl.1 rfl (Nat.le_of_ble_eq_true rfl) dX1_next_77 ⟨Nat.zero_le _, Nat.zero_le _⟩ ?_
              refine lv_if_eq (tgt := 98) hx hb dX1_next_80 (by decide) (fun c_21 => ?_) (fun c_21 => ?_)
              · refine lv_iconst (v := nI 2) hx hb dX1_next_98 (by decide) ?_
                refine va_put (D := (dC, dI)) (ci := 1) (v := .int (nI 2)) (ty := .int) (C := RX1) (T := TX1) (N := 7) hx hb hts hinX1 tyX1 tyX1_ok nmX1 hown hK hP hD hS 0 rfl rfl 0 (by decide) hf26 (fun _ h9 => h9) rfl (by decide +kernel) rfl rfl (Nat.le_of_ble_eq_true rfl) dX1_next_99 (fun H locs hP hD hS => ?_)
                replace hP : va_P (dC, dI) vwCl [(y, .inr (1, [.int (nI 2), .ref a, .int (nI n), .ref b, .ref c9, .ref d, .ref v])), (a, .inl (cI, 64, .inl N)), (b, .inl (cI, 40960, .inl M)), (c9, .inl (cI, 640, .inl S)), (d, .inl (cI, 640, .inl C)), (v, .inl (cI, 640, .inl V))] H := hP
                replace hD : va_D A [(y, .inr (1, [.int (nI 2), .ref a, .int (nI n), .ref b, .ref c9, .ref d, .ref v])), (a, .inl (cI, 64, .inl N)), (b, .inl (cI, 40960, .inl M)), (c9, .inl (cI, 640, .inl S)), (d, .inl (cI, 640, .inl C)), (v, .inl (cI, 640, .inl V))] := hD
                have hok : mo_okN V n st mv = 2 := by rw [mo_okN, if_neg c_1, if_neg c_5, if_neg c_7, if_pos c_19]; rw [mo_okA, if_pos c_21]
                refine lv_aload_n hx hb dX1_next_102 rfl (lv_at hl 1 rfl) ?_
                refine va_get (D := (dC, dI)) (ci := 1) (v := .int (nI 2)) (C := RX1) (T := TX1) (N := 7) hx hb hts hinX1 hown hK hP 0 rfl rfl 0 (by decide) hf26 (fun _ h9 => h9) rfl dX1_next_103 ?_
                refine lv_if_le (tgt := 111) hx hb dX1_next_106 (by decide) (fun c_22 => ?_) (fun c_22 => ?_)
                · exact absurd c_22 (by decide)
                · refine lv_iconst (v := nI 0) hx hb dX1_next_109 (by decide) ?_
                  exact wr_ret hx hb hr hlocks (by rw [hok]; rfl) (by rw [hok]; rfl) hP hK hD hS dX1_next_110
              · refine lv_iload_n hx hb dX1_next_83 rfl (lv_at hl 3 rfl) ?_
                refine lv_if_lt (tgt := 98) hx hb dX1_next_84 (by decide) (fun c_23 => ?_) (fun c_23 => ?_)
                · refine lv_iconst (v := nI 2) hx hb dX1_next_98 (by decide) ?_
                  refine va_put (D := (dC, dI)) (ci := 1) (v := .int (nI 2)) (ty := .int) (C := RX1) (T := TX1) (N := 7) hx hb hts hinX1 tyX1 tyX1_ok nmX1 hown hK hP hD hS 0 rfl rfl 0 (by decide) hf26 (fun _ h9 => h9) rfl (by decide +kernel) rfl rfl (Nat.le_of_ble_eq_true rfl) dX1_next_99 (fun H locs hP hD hS => ?_)
                  replace hP : va_P (dC, dI) vwCl [(y, .inr (1, [.int (nI 2), .ref a, .int (nI n), .ref b, .ref c9, .ref d, .ref v])), (a, .inl (cI, 64, .inl N)), (b, .inl (cI, 40960, .inl M)), (c9, .inl (cI, 640, .inl S)), (d, .inl (cI, 640, .inl C)), (v, .inl (cI, 640, .inl V))] H := hP
                  replace hD : va_D A [(y, .inr (1, [.int (nI 2), .ref a, .int (nI n), .ref b, .ref c9, .ref d, .ref v])), (a, .inl (cI, 64, .inl N)), (b, .inl (cI, 40960, .inl M)), (c9, .inl (cI, 640, .inl S)), (d, .inl (cI, 640, .inl C)), (v, .inl (cI, 640, .inl V))] := hD
                  have hok : mo_okN V n st mv = 2 := by rw [mo_okN, if_neg c_1, if_neg c_5, if_neg c_7, if_pos c_19]; rw [mo_okA, if_neg c_21, if_pos c_23]
                  refine lv_aload_n hx hb dX1_next_102 rfl (lv_at hl 1 rfl) ?_
                  refine va_get (D := (dC, dI)) (ci := 1) (v := .int (nI 2)) (C := RX1) (T := TX1) (N := 7) hx hb hts hinX1 hown hK hP 0 rfl rfl 0 (by decide) hf26 (fun _ h9 => h9) rfl dX1_next_103 ?_
                  refine lv_if_le (tgt := 111) hx hb dX1_next_106 (by decide) (fun c_24 => ?_) (fun c_24 => ?_)
                  · exact absurd c_24 (by decide)
                  · refine lv_iconst (v := nI 0) hx hb dX1_next_109 (by decide) ?_
                    exact wr_ret hx hb hr hlocks (by rw [hok]; rfl) (by rw [hok]; rfl) hP hK hD hS dX1_next_110
                · refine lv_iload_n hx hb dX1_next_87 rfl (lv_at hl 3 rfl) ?_
                  refine lv_sipush (v := nI 300) hx hb dX1_next_88 (by decide) ?_
                  refine lv_icmp_gt (tgt := 98) hx hb dX1_next_91 (by decide) (fun c_25 => ?_) (fun c_25 => ?_)
                  · refine lv_iconst (v := nI 2) hx hb dX1_next_98 (by decide) ?_
                    refine va_put (D := (dC, dI)) (ci := 1) (v := .int (nI 2)) (ty := .int) (C := RX1) (T := TX1) (N := 7) hx hb hts hinX1 tyX1 tyX1_ok nmX1 hown hK hP hD hS 0 rfl rfl 0 (by decide) hf26 (fun _ h9 => h9) rfl (by decide +kernel) rfl rfl (Nat.le_of_ble_eq_true rfl) dX1_next_99 (fun H locs hP hD hS => ?_)
                    replace hP : va_P (dC, dI) vwCl [(y, .inr (1, [.int (nI 2), .ref a, .int (nI n), .ref b, .ref c9, .ref d, .ref v])), (a, .inl (cI, 64, .inl N)), (b, .inl (cI, 40960, .inl M)), (c9, .inl (cI, 640, .inl S)), (d, .inl (cI, 640, .inl C)), (v, .inl (cI, 640, .inl V))] H := hP
                    replace hD : va_D A [(y, .inr (1, [.int (nI 2), .ref a, .int (nI n), .ref b, .ref c9, .ref d, .ref v])), (a, .inl (cI, 64, .inl N)), (b, .inl (cI, 40960, .inl M)), (c9, .inl (cI, 640, .inl S)), (d, .inl (cI, 640, .inl C)), (v, .inl (cI, 640, .inl V))] := hD
                    have hok : mo_okN V n st mv = 2 := by rw [mo_okN, if_neg c_1, if_neg c_5, if_neg c_7, if_pos c_19]; rw [mo_okA, if_neg c_21, if_neg c_23, if_pos c_25]
                    refine lv_aload_n hx hb dX1_next_102 rfl (lv_at hl 1 rfl) ?_
                    refine va_get (D := (dC, dI)) (ci := 1) (v := .int (nI 2)) (C := RX1) (T := TX1) (N := 7) hx hb hts hinX1 hown hK hP 0 rfl rfl 0 (by decide) hf26 (fun _ h9 => h9) rfl dX1_next_103 ?_
                    refine lv_if_le (tgt := 111) hx hb dX1_next_106 (by decide) (fun c_26 => ?_) (fun c_26 => ?_)
                    · exact absurd c_26 (by decide)
                    · refine lv_iconst (v := nI 0) hx hb dX1_next_109 (by decide) ?_
                      exact wr_ret hx hb hr hlocks (by rw [hok]; rfl) (by rw [hok]; rfl) hP hK hD hS dX1_next_110
                  · refine lv_iconst (v := nI 0) hx hb dX1_next_94 (by decide) ?_
                    refine lv_goto (tgt := 99) hx hb dX1_next_95 (by decide) ?_
                    refine va_put (D := (dC, dI)) (ci := 1) (v := .int (nI 0)) (ty := .int) (C := RX1) (T := TX1) (N := 7) hx hb hts hinX1 tyX1 tyX1_ok nmX1 hown hK hP hD hS 0 rfl rfl 0 (by decide) hf26 (fun _ h9 => h9) rfl (by decide +kernel) rfl rfl (Nat.le_of_ble_eq_true rfl) dX1_next_99 (fun H locs hP hD hS => ?_)
                    replace hP : va_P (dC, dI) vwCl [(y, .inr (1, [.int (nI 0), .ref a, .int (nI n), .ref b, .ref c9, .ref d, .ref v])), (a, .inl (cI, 64, .inl N)), (b, .inl (cI, 40960, .inl M)), (c9, .inl (cI, 640, .inl S)), (d, .inl (cI, 640, .inl C)), (v, .inl (cI, 640, .inl V))] H := hP
                    replace hD : va_D A [(y, .inr (1, [.int (nI 0), .ref a, .int (nI n), .ref b, .ref c9, .ref d, .ref v])), (a, .inl (cI, 64, .inl N)), (b, .inl (cI, 40960, .inl M)), (c9, .inl (cI, 640, .inl S)), (d, .inl (cI, 640, .inl C)), (v, .inl (cI, 640, .inl V))] := hD
                    have hok : mo_okN V n st mv = 0 := by rw [mo_okN, if_neg c_1, if_neg c_5, if_neg c_7, if_pos c_19]; rw [mo_okA, if_neg c_21, if_neg c_23, if_neg c_25]
                    refine lv_aload_n hx hb dX1_next_102 rfl (lv_at hl 1 rfl) ?_
                    refine va_get (D := (dC, dI)) (ci := 1) (v := .int (nI 0)) (C := RX1) (T := TX1) (N := 7) hx hb hts hinX1 hown hK hP 0 rfl rfl 0 (by decide) hf26 (fun _ h9 => h9) rfl dX1_next_103 ?_
                    refine lv_if_le (tgt := 111) hx hb dX1_next_106 (by decide) (fun c_27 => ?_) (fun c_27 => ?_)
                    · refine lv_aload_n hx hb dX1_next_111 rfl (lv_at hl 1 rfl) ?_
                      refine lv_iload_n hx hb dX1_next_112 rfl (lv_at hl 2 rfl) ?_
                      refine lv_iload_n hx hb dX1_next_113 rfl (lv_at hl 3 rfl) ?_
                      refine lv_iload_n hx hb dX1_next_114 rfl (lv_at hl 4 rfl) ?_
                      refine lv_iload hx hb dX1_next_115 (lv_at hl 5 rfl) ?_
                      refine lv_if_eq (tgt := 124) hx hb dX1_next_117 (by decide) (fun c_28 => ?_) (fun c_28 => ?_)
                      · refine lv_aload_n hx hb dX1_next_124 rfl (lv_at hl 1 rfl) ?_
                        refine va_get (D := (dC, dI)) (ci := 1) (v := .ref d) (C := RX1) (T := TX1) (N := 7) hx hb hts hinX1 hown hK hP 0 rfl rfl 5 (by decide) hf20 (fun _ h9 => h9) rfl dX1_next_125 ?_
                        refine lv_aload_n hx hb dX1_next_128 rfl (lv_at hl 1 rfl) ?_
                        refine va_get (D := (dC, dI)) (ci := 1) (v := .int (nI n)) (C := RX1) (T := TX1) (N := 7) hx hb hts hinX1 hown hK hP 0 rfl rfl 2 (by decide) hf53 (fun _ h9 => h9) rfl dX1_next_129 ?_
                        refine lv_iconst (v := nI 1) hx hb dX1_next_132 (by decide) ?_
                        refine lv_isub hx hb dX1_next_133 ?_
                        refine lv_is (pk_sub (by omega)) ?_
                        refine ix_iald hx hb hK hP 4 0 rfl rfl (show n - 1 < 640 by omega) (by decide) dX1_next_134 ?_
                        refine lv_iconst (v := nI 1) hx hb dX1_next_135 (by decide) ?_
                        refine lv_iadd hx hb dX1_next_136 ?_
                        refine lv_is (show (C (n - 1)) + (nI 1) = mo_clN C n ir from by rw [mo_clN, if_pos c_28]) ?_
                        refine wr_callV (rest := []) (ws' := [(y, .inr (1, [.int (nI 0), .ref a, .int (nI (n + 1)), .ref b, .ref c9, .ref d, .ref v])), (a, .inl (cI, 64, .inl N)), (b, .inl (cI, 40960, .inl (mo_adM M N n 64))), (c9, .inl (cI, 640, .inl (upd S n st))), (d, .inl (cI, 640, .inl (upd C n (mo_clN C n ir)))), (v, .inl (cI, 640, .inl (upd V n (mo_ver (upd S n st) (mo_adM M N n 64) (upd C n (mo_clN C n ir)) n mv ck))))]) (wrst := []) ⟨hx, hb, hml, hown, hts⟩ (k_X1_add l dC dI cI y a b c9 d v (nI 0) N n M S C V st mv ck (mo_clN C n ir) H.size (by omega)) (cwV 4 hts gX1_next_X1_add rfl rfl rfl (by decide +kernel) ⟨Nat.le_of_ble_eq_true rfl, Nat.le_of_ble_eq_true rfl⟩) hK hP hD hS hA [0, 1, 2, 3, 4, 5] [] rfl rfl (by decide) (by decide) (by decide) rfl (q0 := 0) rfl rfl hl.1 rfl (Nat.le_of_ble_eq_true rfl) dX1_next_137 ⟨Nat.zero_le _, Nat.zero_le _⟩ (fun r_29 H locs hr_29 hP hD hS => ?_)
                        have hP : va_P (dC, dI) vwCl [(y, .inr (1, [.int (nI 0), .ref a, .int (nI (n + 1)), .ref b, .ref c9, .ref d, .ref v])), (a, .inl (cI, 64, .inl N)), (b, .inl (cI, 40960, .inl (mo_adM M N n 64))), (c9, .inl (cI, 640, .inl (upd S n st))), (d, .inl (cI, 640, .inl (upd C n (mo_clN C n ir)))), (v, .inl (cI, 640, .inl (upd V n (mo_ver (upd S n st) (mo_adM M N n 64) (upd C n (mo_clN C n ir)) n mv ck))))] H := hP
                        have hD : va_D A [(y, .inr (1, [.int (nI 0), .ref a, .int (nI (n + 1)), .ref b, .ref c9, .ref d, .ref v])), (a, .inl (cI, 64, .inl N)), (b, .inl (cI, 40960, .inl (mo_adM M N n 64))), (c9, .inl (cI, 640, .inl (upd S n st))), (d, .inl (cI, 640, .inl (upd C n (mo_clN C n ir)))), (v, .inl (cI, 640, .inl (upd V n (mo_ver (upd S n st) (mo_adM M N n 64) (upd C n (mo_clN C n ir)) n mv ck))))] := hD
                        refine lv_is hr_29 ?_
                        exact wr_ret hx hb hr hlocks (by rw [hok]; rfl) (by rw [hok]; rfl) hP hK hD hS dX1_next_140
                      · refine lv_iconst (v := nI 0) hx hb dX1_next_120 (by decide) ?_
                        refine lv_goto (tgt := 137) hx hb dX1_next_121 (by decide) ?_
                        refine lv_is (show nI 0 = mo_clN C n ir from by rw [mo_clN, if_neg c_28]) ?_
                        refine wr_callV (rest := []) (ws' := [(y, .inr (1, [.int (nI 0), .ref a, .int (nI (n + 1)), .ref b, .ref c9, .ref d, .ref v])), (a, .inl (cI, 64, .inl N)), (b, .inl (cI, 40960, .inl (mo_adM M N n 64))), (c9, .inl (cI, 640, .inl (upd S n st))), (d, .inl (cI, 640, .inl (upd C n (mo_clN C n ir)))), (v, .inl (cI, 640, .inl (upd V n (mo_ver (upd S n st) (mo_adM M N n 64) (upd C n (mo_clN C n ir)) n mv ck))))]) (wrst := []) ⟨hx, hb, hml, hown, hts⟩ (k_X1_add l dC dI cI y a b c9 d v (nI 0) N n M S C V st mv ck (mo_clN C n ir) H.size (by omega)) (cwV 4 hts gX1_next_X1_add rfl rfl rfl (by decide +kernel) ⟨Nat.le_of_ble_eq_true rfl, Nat.le_of_ble_eq_true rfl⟩) hK hP hD hS hA [0, 1, 2, 3, 4, 5] [] rfl rfl (by decide) (by decide) (by decide) rfl (q0 := 0) rfl rfl hl.1 rfl (Nat.le_of_ble_eq_true rfl) dX1_next_137 ⟨Nat.zero_le _, Nat.zero_le _⟩ (fun r_30 H locs hr_30 hP hD hS => ?_)
                        have hP : va_P (dC, dI) vwCl [(y, .inr (1, [.int (nI 0), .ref a, .int (nI (n + 1)), .ref b, .ref c9, .ref d, .ref v])), (a, .inl (cI, 64, .inl N)), (b, .inl (cI, 40960, .inl (mo_adM M N n 64))), (c9, .inl (cI, 640, .inl (upd S n st))), (d, .inl (cI, 640, .inl (upd C n (mo_clN C n ir)))), (v, .inl (cI, 640, .inl (upd V n (mo_ver (upd S n st) (mo_adM M N n 64) (upd C n (mo_clN C n ir)) n mv ck))))] H := hP
                        have hD : va_D A [(y, .inr (1, [.int (nI 0), .ref a, .int (nI (n + 1)), .ref b, .ref c9, .ref d, .ref v])), (a, .inl (cI, 64, .inl N)), (b, .inl (cI, 40960, .inl (mo_adM M N n 64))), (c9, .inl (cI, 640, .inl (upd S n st))), (d, .inl (cI, 640, .inl (upd C n (mo_clN C n ir)))), (v, .inl (cI, 640, .inl (upd V n (mo_ver (upd S n st) (mo_adM M N n 64) (upd C n (mo_clN C n ir)) n mv ck))))] := hD
                        refine lv_is hr_30 ?_
                        exact wr_ret hx hb hr hlocks (by rw [hok]; rfl) (by rw [hok]; rfl) hP hK hD hS dX1_next_140
                    · exact absurd (by decide) c_27
            · exact absurd (by decide) c_20
          · refine lv_iconst (v := nI 1) hx hb dX1_next_59 (by decide) ?_
            refine lv_goto (tgt := 64) hx hb dX1_next_60 (by decide) ?_
            refine lv_istore (lv' := [(5, .int (nI 1)), (0, .ref y), (1, .int st), (2, .int mv), (3, .int ck), (4, .int ir)]) hx hb dX1_next_64 hl (by decide) rfl (fun ls hl => ?_)
            refine lv_aload_n hx hb dX1_next_66 rfl (lv_at hl 1 rfl) ?_
            refine lv_iload hx hb dX1_next_67 (lv_at hl 0 rfl) ?_
            refine lv_if_eq (tgt := 76) hx hb dX1_next_69 (by decide) (fun c_31 => ?_) (fun c_31 => ?_)
            · exact absurd c_31 (by decide)
            · refine lv_iconst (v := nI 1) hx hb dX1_next_72 (by decide) ?_
              refine lv_goto (tgt := 99) hx hb dX1_next_73 (by decide) ?_
              refine va_put (D := (dC, dI)) (ci := 1) (v := .int (nI 1)) (ty := .int) (C := RX1) (T := TX1) (N := 7) hx hb hts hinX1 tyX1 tyX1_ok nmX1 hown hK hP hD hS 0 rfl rfl 0 (by decide) hf26 (fun _ h9 => h9) rfl (by decide +kernel) rfl rfl (Nat.le_of_ble_eq_true rfl) dX1_next_99 (fun H locs hP hD hS => ?_)
              replace hP : va_P (dC, dI) vwCl [(y, .inr (1, [.int (nI 1), .ref a, .int (nI n), .ref b, .ref c9, .ref d, .ref v])), (a, .inl (cI, 64, .inl N)), (b, .inl (cI, 40960, .inl M)), (c9, .inl (cI, 640, .inl S)), (d, .inl (cI, 640, .inl C)), (v, .inl (cI, 640, .inl V))] H := hP
              replace hD : va_D A [(y, .inr (1, [.int (nI 1), .ref a, .int (nI n), .ref b, .ref c9, .ref d, .ref v])), (a, .inl (cI, 64, .inl N)), (b, .inl (cI, 40960, .inl M)), (c9, .inl (cI, 640, .inl S)), (d, .inl (cI, 640, .inl C)), (v, .inl (cI, 640, .inl V))] := hD
              have hok : mo_okN V n st mv = 1 := by rw [mo_okN, if_neg c_1, if_neg c_5, if_neg c_7, if_neg c_19]
              refine lv_aload_n hx hb dX1_next_102 rfl (lv_at hl 1 rfl) ?_
              refine va_get (D := (dC, dI)) (ci := 1) (v := .int (nI 1)) (C := RX1) (T := TX1) (N := 7) hx hb hts hinX1 hown hK hP 0 rfl rfl 0 (by decide) hf26 (fun _ h9 => h9) rfl dX1_next_103 ?_
              refine lv_if_le (tgt := 111) hx hb dX1_next_106 (by decide) (fun c_32 => ?_) (fun c_32 => ?_)
              · exact absurd c_32 (by decide)
              · refine lv_iconst (v := nI 0) hx hb dX1_next_109 (by decide) ?_
                exact wr_ret hx hb hr hlocks (by rw [hok]; rfl) (by rw [hok]; rfl) hP hK hD hS dX1_next_110
    · have c_5 : n = 640 := (nI_eq (show n < 2 ^ 31 by omega) (show 640 < 2 ^ 31 by omega)).mp c_5
      refine lv_iconst (v := nI 1) hx hb dX1_next_17 (by decide) ?_
      refine lv_goto (tgt := 22) hx hb dX1_next_18 (by decide) ?_
      refine lv_istore (lv' := [(5, .int (nI 1)), (0, .ref y), (1, .int st), (2, .int mv), (3, .int ck), (4, .int ir)]) hx hb dX1_next_22 hl (by decide) rfl (fun ls hl => ?_)
      refine lv_iload hx hb dX1_next_24 (lv_at hl 0 rfl) ?_
      refine lv_if_ne (tgt := 59) hx hb dX1_next_26 (by decide) (fun c_33 => ?_) (fun c_33 => ?_)
      · refine lv_iconst (v := nI 1) hx hb dX1_next_59 (by decide) ?_
        refine lv_goto (tgt := 64) hx hb dX1_next_60 (by decide) ?_
        refine lv_istore (lv' := [(5, .int (nI 1)), (0, .ref y), (1, .int st), (2, .int mv), (3, .int ck), (4, .int ir)]) hx hb dX1_next_64 hl (by decide) rfl (fun ls hl => ?_)
        refine lv_aload_n hx hb dX1_next_66 rfl (lv_at hl 1 rfl) ?_
        refine lv_iload hx hb dX1_next_67 (lv_at hl 0 rfl) ?_
        refine lv_if_eq (tgt := 76) hx hb dX1_next_69 (by decide) (fun c_34 => ?_) (fun c_34 => ?_)
        · exact absurd c_34 (by decide)
        · refine lv_iconst (v := nI 1) hx hb dX1_next_72 (by decide) ?_
          refine lv_goto (tgt := 99) hx hb dX1_next_73 (by decide) ?_
          refine va_put (D := (dC, dI)) (ci := 1) (v := .int (nI 1)) (ty := .int) (C := RX1) (T := TX1) (N := 7) hx hb hts hinX1 tyX1 tyX1_ok nmX1 hown hK hP hD hS 0 rfl rfl 0 (by decide) hf26 (fun _ h9 => h9) rfl (by decide +kernel) rfl rfl (Nat.le_of_ble_eq_true rfl) dX1_next_99 (fun H locs hP hD hS => ?_)
          replace hP : va_P (dC, dI) vwCl [(y, .inr (1, [.int (nI 1), .ref a, .int (nI n), .ref b, .ref c9, .ref d, .ref v])), (a, .inl (cI, 64, .inl N)), (b, .inl (cI, 40960, .inl M)), (c9, .inl (cI, 640, .inl S)), (d, .inl (cI, 640, .inl C)), (v, .inl (cI, 640, .inl V))] H := hP
          replace hD : va_D A [(y, .inr (1, [.int (nI 1), .ref a, .int (nI n), .ref b, .ref c9, .ref d, .ref v])), (a, .inl (cI, 64, .inl N)), (b, .inl (cI, 40960, .inl M)), (c9, .inl (cI, 640, .inl S)), (d, .inl (cI, 640, .inl C)), (v, .inl (cI, 640, .inl V))] := hD
          have hok : mo_okN V n st mv = 1 := by rw [mo_okN, if_neg c_1, if_pos c_5]
          refine lv_aload_n hx hb dX1_next_102 rfl (lv_at hl 1 rfl) ?_
          refine va_get (D := (dC, dI)) (ci := 1) (v := .int (nI 1)) (C := RX1) (T := TX1) (N := 7) hx hb hts hinX1 hown hK hP 0 rfl rfl 0 (by decide) hf26 (fun _ h9 => h9) rfl dX1_next_103 ?_
          refine lv_if_le (tgt := 111) hx hb dX1_next_106 (by decide) (fun c_35 => ?_) (fun c_35 => ?_)
          · exact absurd c_35 (by decide)
          · refine lv_iconst (v := nI 0) hx hb dX1_next_109 (by decide) ?_
            exact wr_ret hx hb hr hlocks (by rw [hok]; rfl) (by rw [hok]; rfl) hP hK hD hS dX1_next_110
      · exact absurd c_33 (by decide)
set_option maxHeartbeats 4000000 in
set_option maxRecDepth 100000 in
theorem k_X1_back (l : Launch) (dC : Nat → ClassId) (dI : Nat → Nat → Nat) (cI : ClassId) (y a b c9 d v : Nat) (th : Int32) (N : Nat → Int32) (n : Nat) (M S C V : Nat → Int32) (sz : Nat) (hn : n ≤ 640) : Met l yX1_back wsX1_back ({ frames := 0, cells := 0, slots := 0, locals := 0 } : Room) (wr (dC, dI) (wM cI y a b c9 d v th N n M S C V) (tM cI) sz [.ref y]) (wrQ (dC, dI) (wM cI y a b c9 d v (nI 0) N (n - 1) M S C V) (tM cI) (va_A (wM cI y a b c9 d v th N n M S C V) sz) (fun r => r = if n = 0 then nI 0 else nI 1)) 0 0 (va_A (wM cI y a b c9 d v th N n M S C V) sz) := by
  refine Met.ofW (cc := cX1_back) (maxL := 1) (ret := (some .boolean)) (by decide) rfl ?_
  intro p e s m args below meth c s₁ B hml hv
  obtain ⟨rfl, hsz, hP, hK, hD0⟩ := hv
  have hx := B.exec
  have hb := B.bytes
  have hr := B.returns
  have hts := atoms_spec (ws := wsX1_back) B.pre
  have hown : s.vm.findClass RX1 = some m.cls := findClass_of_methodNamed B.named
  have hlocks := B.notSynchronized
  have hinX1 : ∀ w ∈ u_ws RX1 TX1 7, w ∈ wsX1_back := by decide +kernel
  have hf26 := hts (.fieldLink RX1 26 "GameArbiterModel" "thrown" "I") (by decide +kernel)
  have hf53 := hts (.fieldLink RX1 53 "GameArbiterModel" "many" "I") (by decide +kernel)
  have hl := lv_entry ([.ref y]) (n := 1) (Nat.le_of_ble_eq_true rfl)
  rw [lg_entry_eq]
  generalize (lg_sl ([.ref y]) ++ List.replicate (1 - (lg_sl ([.ref y])).length) Slot.unset).toArray = ls at hl ⊢
  replace hl : lv_has ls 1 [(0, .ref y)] := hl
  subst hsz
  have hD := hD0.self (sz := s.heap.size)
  generalize hAe : va_A (wM cI y a b c9 d v th N n M S C V) s.heap.size = A at hD ⊢
  have hA : ∀ q : Nat, s.heap.size ≤ q → A q := fun q h => by rw [← hAe]; exact Or.inr h
  have hS : va_S A s.heap s.heap [] := va_S.rf
  replace hP : va_P (dC, dI) vwCl [(y, .inr (1, [.int th, .ref a, .int (nI n), .ref b, .ref c9, .ref d, .ref v])), (a, .inl (cI, 64, .inl N)), (b, .inl (cI, 40960, .inl M)), (c9, .inl (cI, 640, .inl S)), (d, .inl (cI, 640, .inl C)), (v, .inl (cI, 640, .inl V))] s.heap := hP
  replace hD : va_D A [(y, .inr (1, [.int th, .ref a, .int (nI n), .ref b, .ref c9, .ref d, .ref v])), (a, .inl (cI, 64, .inl N)), (b, .inl (cI, 40960, .inl M)), (c9, .inl (cI, 640, .inl S)), (d, .inl (cI, 640, .inl C)), (v, .inl (cI, 640, .inl V))] := hD
  refine lv_aload_n hx hb dX1_back_0 rfl (lv_at hl 0 rfl) ?_
  refine lv_iconst (v := nI 0) hx hb dX1_back_1 (by decide) ?_
  refine va_put (D := (dC, dI)) (ci := 1) (v := .int (nI 0)) (ty := .int) (C := RX1) (T := TX1) (N := 7) hx hb hts hinX1 tyX1 tyX1_ok nmX1 hown hK hP hD hS 0 rfl rfl 0 (by decide) hf26 (fun _ h9 => h9) rfl (by decide +kernel) rfl rfl (Nat.le_of_ble_eq_true rfl) dX1_back_2 (fun H locs hP hD hS => ?_)
  replace hP : va_P (dC, dI) vwCl [(y, .inr (1, [.int (nI 0), .ref a, .int (nI n), .ref b, .ref c9, .ref d, .ref v])), (a, .inl (cI, 64, .inl N)), (b, .inl (cI, 40960, .inl M)), (c9, .inl (cI, 640, .inl S)), (d, .inl (cI, 640, .inl C)), (v, .inl (cI, 640, .inl V))] H := hP
  replace hD : va_D A [(y, .inr (1, [.int (nI 0), .ref a, .int (nI n), .ref b, .ref c9, .ref d, .ref v])), (a, .inl (cI, 64, .inl N)), (b, .inl (cI, 40960, .inl M)), (c9, .inl (cI, 640, .inl S)), (d, .inl (cI, 640, .inl C)), (v, .inl (cI, 640, .inl V))] := hD
  refine lv_aload_n hx hb dX1_back_5 rfl (lv_at hl 0 rfl) ?_
  refine va_get (D := (dC, dI)) (ci := 1) (v := .int (nI n)) (C := RX1) (T := TX1) (N := 7) hx hb hts hinX1 hown hK hP 0 rfl rfl 2 (by decide) hf53 (fun _ h9 => h9) rfl dX1_back_6 ?_
  refine lv_if_ne (tgt := 14) hx hb dX1_back_9 (by decide) (fun c_1 => ?_) (fun c_1 => ?_)
  · have c_1 : ¬ (n = 0) := fun h => c_1 ((nz_eq (show n < 2 ^ 31 by omega)).mpr h)
    refine lv_aload_n hx hb dX1_back_14 rfl (lv_at hl 0 rfl) ?_
    refine lv_dup hx hb dX1_back_15 rfl ?_
    refine va_get (D := (dC, dI)) (ci := 1) (v := .int (nI n)) (C := RX1) (T := TX1) (N := 7) hx hb hts hinX1 hown hK hP 0 rfl rfl 2 (by decide) hf53 (fun _ h9 => h9) rfl dX1_back_16 ?_
    refine lv_iconst (v := nI 1) hx hb dX1_back_19 (by decide) ?_
    refine lv_isub hx hb dX1_back_20 ?_
    refine lv_is (pk_sub (by omega)) ?_
    refine va_put (D := (dC, dI)) (ci := 1) (v := .int (nI (n - 1))) (ty := .int) (C := RX1) (T := TX1) (N := 7) hx hb hts hinX1 tyX1 tyX1_ok nmX1 hown hK hP hD hS 0 rfl rfl 2 (by decide) hf53 (fun _ h9 => h9) rfl (by decide +kernel) rfl rfl (Nat.le_of_ble_eq_true rfl) dX1_back_21 (fun H locs hP hD hS => ?_)
    replace hP : va_P (dC, dI) vwCl [(y, .inr (1, [.int (nI 0), .ref a, .int (nI (n - 1)), .ref b, .ref c9, .ref d, .ref v])), (a, .inl (cI, 64, .inl N)), (b, .inl (cI, 40960, .inl M)), (c9, .inl (cI, 640, .inl S)), (d, .inl (cI, 640, .inl C)), (v, .inl (cI, 640, .inl V))] H := hP
    replace hD : va_D A [(y, .inr (1, [.int (nI 0), .ref a, .int (nI (n - 1)), .ref b, .ref c9, .ref d, .ref v])), (a, .inl (cI, 64, .inl N)), (b, .inl (cI, 40960, .inl M)), (c9, .inl (cI, 640, .inl S)), (d, .inl (cI, 640, .inl C)), (v, .inl (cI, 640, .inl V))] := hD
    refine lv_iconst (v := nI 1) hx hb dX1_back_24 (by decide) ?_
    exact wr_retz hx hb hr hlocks rfl (by rw [if_neg c_1]) (rfl) hP hK hD hS dX1_back_25
  · have c_1 : n = 0 := (nz_eq (show n < 2 ^ 31 by omega)).mp c_1
    refine lv_iconst (v := nI 0) hx hb dX1_back_12 (by decide) ?_
    exact wr_retz hx hb hr hlocks rfl (by rw [if_pos c_1]) (by rw [show n - 1 = n by omega]) hP hK hD hS dX1_back_13
set_option maxHeartbeats 4000000 in
set_option maxRecDepth 100000 in
theorem k_X1_verdict (l : Launch) (dC : Nat → ClassId) (dI : Nat → Nat → Nat) (cI : ClassId) (y a b c9 d v : Nat) (th : Int32) (N : Nat → Int32) (n : Nat) (M S C V : Nat → Int32) (sz : Nat) (hn : n ≤ 640) : Met l yX1_verdict wsX1_verdict ({ frames := 0, cells := 0, slots := 0, locals := 0 } : Room) (wr (dC, dI) (wM cI y a b c9 d v th N n M S C V) (tM cI) sz [.ref y]) (wrQ (dC, dI) (wM cI y a b c9 d v (nI 0) N n M S C V) (tM cI) (va_A (wM cI y a b c9 d v th N n M S C V) sz) (fun r => r = if n = 0 then -1 else V (n - 1))) 0 0 (va_A (wM cI y a b c9 d v th N n M S C V) sz) := by
  refine Met.ofW (cc := cX1_verdict) (maxL := 1) (ret := (some .int)) (by decide) rfl ?_
  intro p e s m args below meth c s₁ B hml hv
  obtain ⟨rfl, hsz, hP, hK, hD0⟩ := hv
  have hx := B.exec
  have hb := B.bytes
  have hr := B.returns
  have hts := atoms_spec (ws := wsX1_verdict) B.pre
  have hown : s.vm.findClass RX1 = some m.cls := findClass_of_methodNamed B.named
  have hlocks := B.notSynchronized
  have hinX1 : ∀ w ∈ u_ws RX1 TX1 7, w ∈ wsX1_verdict := by decide +kernel
  have hf23 := hts (.fieldLink RX1 23 "GameArbiterModel" "verdicts" "[I") (by decide +kernel)
  have hf26 := hts (.fieldLink RX1 26 "GameArbiterModel" "thrown" "I") (by decide +kernel)
  have hf53 := hts (.fieldLink RX1 53 "GameArbiterModel" "many" "I") (by decide +kernel)
  have hl := lv_entry ([.ref y]) (n := 1) (Nat.le_of_ble_eq_true rfl)
  rw [lg_entry_eq]
  generalize (lg_sl ([.ref y]) ++ List.replicate (1 - (lg_sl ([.ref y])).length) Slot.unset).toArray = ls at hl ⊢
  replace hl : lv_has ls 1 [(0, .ref y)] := hl
  subst hsz
  have hD := hD0.self (sz := s.heap.size)
  generalize hAe : va_A (wM cI y a b c9 d v th N n M S C V) s.heap.size = A at hD ⊢
  have hA : ∀ q : Nat, s.heap.size ≤ q → A q := fun q h => by rw [← hAe]; exact Or.inr h
  have hS : va_S A s.heap s.heap [] := va_S.rf
  replace hP : va_P (dC, dI) vwCl [(y, .inr (1, [.int th, .ref a, .int (nI n), .ref b, .ref c9, .ref d, .ref v])), (a, .inl (cI, 64, .inl N)), (b, .inl (cI, 40960, .inl M)), (c9, .inl (cI, 640, .inl S)), (d, .inl (cI, 640, .inl C)), (v, .inl (cI, 640, .inl V))] s.heap := hP
  replace hD : va_D A [(y, .inr (1, [.int th, .ref a, .int (nI n), .ref b, .ref c9, .ref d, .ref v])), (a, .inl (cI, 64, .inl N)), (b, .inl (cI, 40960, .inl M)), (c9, .inl (cI, 640, .inl S)), (d, .inl (cI, 640, .inl C)), (v, .inl (cI, 640, .inl V))] := hD
  refine lv_aload_n hx hb dX1_verdict_0 rfl (lv_at hl 0 rfl) ?_
  refine lv_iconst (v := nI 0) hx hb dX1_verdict_1 (by decide) ?_
  refine va_put (D := (dC, dI)) (ci := 1) (v := .int (nI 0)) (ty := .int) (C := RX1) (T := TX1) (N := 7) hx hb hts hinX1 tyX1 tyX1_ok nmX1 hown hK hP hD hS 0 rfl rfl 0 (by decide) hf26 (fun _ h9 => h9) rfl (by decide +kernel) rfl rfl (Nat.le_of_ble_eq_true rfl) dX1_verdict_2 (fun H locs hP hD hS => ?_)
  replace hP : va_P (dC, dI) vwCl [(y, .inr (1, [.int (nI 0), .ref a, .int (nI n), .ref b, .ref c9, .ref d, .ref v])), (a, .inl (cI, 64, .inl N)), (b, .inl (cI, 40960, .inl M)), (c9, .inl (cI, 640, .inl S)), (d, .inl (cI, 640, .inl C)), (v, .inl (cI, 640, .inl V))] H := hP
  replace hD : va_D A [(y, .inr (1, [.int (nI 0), .ref a, .int (nI n), .ref b, .ref c9, .ref d, .ref v])), (a, .inl (cI, 64, .inl N)), (b, .inl (cI, 40960, .inl M)), (c9, .inl (cI, 640, .inl S)), (d, .inl (cI, 640, .inl C)), (v, .inl (cI, 640, .inl V))] := hD
  refine lv_aload_n hx hb dX1_verdict_5 rfl (lv_at hl 0 rfl) ?_
  refine va_get (D := (dC, dI)) (ci := 1) (v := .int (nI n)) (C := RX1) (T := TX1) (N := 7) hx hb hts hinX1 hown hK hP 0 rfl rfl 2 (by decide) hf53 (fun _ h9 => h9) rfl dX1_verdict_6 ?_
  refine lv_if_ne (tgt := 16) hx hb dX1_verdict_9 (by decide) (fun c_1 => ?_) (fun c_1 => ?_)
  · have c_1 : ¬ (n = 0) := fun h => c_1 ((nz_eq (show n < 2 ^ 31 by omega)).mpr h)
    refine lv_aload_n hx hb dX1_verdict_16 rfl (lv_at hl 0 rfl) ?_
    refine va_get (D := (dC, dI)) (ci := 1) (v := .ref v) (C := RX1) (T := TX1) (N := 7) hx hb hts hinX1 hown hK hP 0 rfl rfl 6 (by decide) hf23 (fun _ h9 => h9) rfl dX1_verdict_17 ?_
    refine lv_aload_n hx hb dX1_verdict_20 rfl (lv_at hl 0 rfl) ?_
    refine va_get (D := (dC, dI)) (ci := 1) (v := .int (nI n)) (C := RX1) (T := TX1) (N := 7) hx hb hts hinX1 hown hK hP 0 rfl rfl 2 (by decide) hf53 (fun _ h9 => h9) rfl dX1_verdict_21 ?_
    refine lv_iconst (v := nI 1) hx hb dX1_verdict_24 (by decide) ?_
    refine lv_isub hx hb dX1_verdict_25 ?_
    refine lv_is (pk_sub (by omega)) ?_
    refine ix_iald hx hb hK hP 5 0 rfl rfl (show n - 1 < 640 by omega) (by decide) dX1_verdict_26 ?_
    exact wr_ret hx hb hr hlocks (by rw [if_neg c_1]) (rfl) hP hK hD hS dX1_verdict_27
  · have c_1 : n = 0 := (nz_eq (show n < 2 ^ 31 by omega)).mp c_1
    refine lv_iconst (v := (-1)) hx hb dX1_verdict_12 (by decide) ?_
    refine lv_goto (tgt := 27) hx hb dX1_verdict_13 (by decide) ?_
    exact wr_ret hx hb hr hlocks (by rw [if_pos c_1]) (rfl) hP hK hD hS dX1_verdict_27
end
section
set_option maxHeartbeats 4000000 in
set_option maxRecDepth 100000 in
theorem k_X1_of (l : Launch) (dC : Nat → ClassId) (dI : Nat → Nat → Nat) (cI : ClassId) (y a b c9 d v : Nat) (th : Int32) (N : Nat → Int32) (n : Nat) (M S C V : Nat → Int32) (i w : Int32) (sz : Nat) (hn : n ≤ 640) : Met l yX1_of wsX1_of ({ frames := 2, cells := 0, slots := 0, locals := 49 } : Room) (wr (dC, dI) (wM cI y a b c9 d v th N n M S C V) (tM cI) sz [.ref y, .int i, .int w]) (wrQ (dC, dI) (wM cI y a b c9 d v (nI (mo_okO n i w)) N n M S C V) (tM cI) (va_A (wM cI y a b c9 d v th N n M S C V) sz) (fun r => r = sel (mo_okO n i w) (mo_of S M C V i.toNatClampNeg w) (nI 0))) 0 0 (va_A (wM cI y a b c9 d v th N n M S C V) sz) := by
  refine Met.ofW (cc := cX1_of) (maxL := 7) (ret := (some .int)) (by decide) rfl ?_
  intro p e s m args below meth c s₁ B hml hv
  obtain ⟨rfl, hsz, hP, hK, hD0⟩ := hv
  have hx := B.exec
  have hb := B.bytes
  have hr := B.returns
  have hts := atoms_spec (ws := wsX1_of) B.pre
  have hown : s.vm.findClass RX1 = some m.cls := findClass_of_methodNamed B.named
  have hlocks := B.notSynchronized
  have hinX1 : ∀ w ∈ u_ws RX1 TX1 7, w ∈ wsX1_of := by decide +kernel
  have hf17 := hts (.fieldLink RX1 17 "GameArbiterModel" "states" "[I") (by decide +kernel)
  have hf20 := hts (.fieldLink RX1 20 "GameArbiterModel" "clocks" "[I") (by decide +kernel)
  have hf23 := hts (.fieldLink RX1 23 "GameArbiterModel" "verdicts" "[I") (by decide +kernel)
  have hf26 := hts (.fieldLink RX1 26 "GameArbiterModel" "thrown" "I") (by decide +kernel)
  have hl := lv_entry ([.ref y, .int i, .int w]) (n := 7) (Nat.le_of_ble_eq_true rfl)
  rw [lg_entry_eq]
  generalize (lg_sl ([.ref y, .int i, .int w]) ++ List.replicate (7 - (lg_sl ([.ref y, .int i, .int w])).length) Slot.unset).toArray = ls at hl ⊢
  replace hl : lv_has ls 7 [(0, .ref y), (1, .int i), (2, .int w)] := hl
  subst hsz
  have hD := hD0.self (sz := s.heap.size)
  generalize hAe : va_A (wM cI y a b c9 d v th N n M S C V) s.heap.size = A at hD ⊢
  have hA : ∀ q : Nat, s.heap.size ≤ q → A q := fun q h => by rw [← hAe]; exact Or.inr h
  have hS : va_S A s.heap s.heap [] := va_S.rf
  replace hP : va_P (dC, dI) vwCl [(y, .inr (1, [.int th, .ref a, .int (nI n), .ref b, .ref c9, .ref d, .ref v])), (a, .inl (cI, 64, .inl N)), (b, .inl (cI, 40960, .inl M)), (c9, .inl (cI, 640, .inl S)), (d, .inl (cI, 640, .inl C)), (v, .inl (cI, 640, .inl V))] s.heap := hP
  replace hD : va_D A [(y, .inr (1, [.int th, .ref a, .int (nI n), .ref b, .ref c9, .ref d, .ref v])), (a, .inl (cI, 64, .inl N)), (b, .inl (cI, 40960, .inl M)), (c9, .inl (cI, 640, .inl S)), (d, .inl (cI, 640, .inl C)), (v, .inl (cI, 640, .inl V))] := hD
  refine lv_aload_n hx hb dX1_of_0 rfl (lv_at hl 0 rfl) ?_
  refine lv_aload_n hx hb dX1_of_1 rfl (lv_at hl 0 rfl) ?_
  refine lv_iload_n hx hb dX1_of_2 rfl (lv_at hl 1 rfl) ?_
  refine rd_callV (rest := [.ref y]) ⟨hx, hb, hml, hown, hts⟩ (k_X1_isIn l dC dI cI y a b c9 d v th N n M S C V i) (cwV 1 hts gX1_of_X1_isIn rfl rfl rfl (by decide +kernel) ⟨Nat.le_of_ble_eq_true rfl, Nat.le_of_ble_eq_true rfl⟩) hK hP rfl (q0 := 0) rfl rfl hl.1 rfl (Nat.le_of_ble_eq_true rfl) dX1_of_3 ⟨Nat.zero_le _, Nat.zero_le _⟩ ?_
  refine lv_if_eq (tgt := 23) hx hb dX1_of_6 (by decide) (fun c_1 => ?_) (fun c_1 => ?_)
  · refine lv_iconst (v := nI 1) hx hb dX1_of_23 (by decide) ?_
    refine va_put (D := (dC, dI)) (ci := 1) (v := .int (nI 1)) (ty := .int) (C := RX1) (T := TX1) (N := 7) hx hb hts hinX1 tyX1 tyX1_ok nmX1 hown hK hP hD hS 0 rfl rfl 0 (by decide) hf26 (fun _ h9 => h9) rfl (by decide +kernel) rfl rfl (Nat.le_of_ble_eq_true rfl) dX1_of_24 (fun H locs hP hD hS => ?_)
    replace hP : va_P (dC, dI) vwCl [(y, .inr (1, [.int (nI 1), .ref a, .int (nI n), .ref b, .ref c9, .ref d, .ref v])), (a, .inl (cI, 64, .inl N)), (b, .inl (cI, 40960, .inl M)), (c9, .inl (cI, 640, .inl S)), (d, .inl (cI, 640, .inl C)), (v, .inl (cI, 640, .inl V))] H := hP
    replace hD : va_D A [(y, .inr (1, [.int (nI 1), .ref a, .int (nI n), .ref b, .ref c9, .ref d, .ref v])), (a, .inl (cI, 64, .inl N)), (b, .inl (cI, 40960, .inl M)), (c9, .inl (cI, 640, .inl S)), (d, .inl (cI, 640, .inl C)), (v, .inl (cI, 640, .inl V))] := hD
    have hok : mo_okO n i w = 1 := by rw [mo_okO, if_pos c_1]
    refine lv_aload_n hx hb dX1_of_27 rfl (lv_at hl 0 rfl) ?_
    refine va_get (D := (dC, dI)) (ci := 1) (v := .int (nI 1)) (C := RX1) (T := TX1) (N := 7) hx hb hts hinX1 hown hK hP 0 rfl rfl 0 (by decide) hf26 (fun _ h9 => h9) rfl dX1_of_28 ?_
    refine lv_if_le (tgt := 36) hx hb dX1_of_31 (by decide) (fun c_2 => ?_) (fun c_2 => ?_)
    · exact absurd c_2 (by decide)
    · refine lv_iconst (v := nI 0) hx hb dX1_of_34 (by decide) ?_
      exact wr_ret hx hb hr hlocks (by rw [hok]; rfl) (by rw [hok]) hP hK hD hS dX1_of_35
  · obtain ⟨j, hj, rfl⟩ := ga_isPos_nat hn c_1
    refine lv_iload_n hx hb dX1_of_9 rfl (lv_at hl 2 rfl) ?_
    refine lv_if_lt (tgt := 23) hx hb dX1_of_10 (by decide) (fun c_3 => ?_) (fun c_3 => ?_)
    · refine lv_iconst (v := nI 1) hx hb dX1_of_23 (by decide) ?_
      refine va_put (D := (dC, dI)) (ci := 1) (v := .int (nI 1)) (ty := .int) (C := RX1) (T := TX1) (N := 7) hx hb hts hinX1 tyX1 tyX1_ok nmX1 hown hK hP hD hS 0 rfl rfl 0 (by decide) hf26 (fun _ h9 => h9) rfl (by decide +kernel) rfl rfl (Nat.le_of_ble_eq_true rfl) dX1_of_24 (fun H locs hP hD hS => ?_)
      replace hP : va_P (dC, dI) vwCl [(y, .inr (1, [.int (nI 1), .ref a, .int (nI n), .ref b, .ref c9, .ref d, .ref v])), (a, .inl (cI, 64, .inl N)), (b, .inl (cI, 40960, .inl M)), (c9, .inl (cI, 640, .inl S)), (d, .inl (cI, 640, .inl C)), (v, .inl (cI, 640, .inl V))] H := hP
      replace hD : va_D A [(y, .inr (1, [.int (nI 1), .ref a, .int (nI n), .ref b, .ref c9, .ref d, .ref v])), (a, .inl (cI, 64, .inl N)), (b, .inl (cI, 40960, .inl M)), (c9, .inl (cI, 640, .inl S)), (d, .inl (cI, 640, .inl C)), (v, .inl (cI, 640, .inl V))] := hD
      have hok : mo_okO n (nI j) w = 1 := by rw [mo_okO, if_neg c_1, if_pos c_3]
      refine lv_aload_n hx hb dX1_of_27 rfl (lv_at hl 0 rfl) ?_
      refine va_get (D := (dC, dI)) (ci := 1) (v := .int (nI 1)) (C := RX1) (T := TX1) (N := 7) hx hb hts hinX1 hown hK hP 0 rfl rfl 0 (by decide) hf26 (fun _ h9 => h9) rfl dX1_of_28 ?_
      refine lv_if_le (tgt := 36) hx hb dX1_of_31 (by decide) (fun c_4 => ?_) (fun c_4 => ?_)
      · exact absurd c_4 (by decide)
      · refine lv_iconst (v := nI 0) hx hb dX1_of_34 (by decide) ?_
        exact wr_ret hx hb hr hlocks (by rw [hok]; rfl) (by rw [hok]) hP hK hD hS dX1_of_35
    · refine lv_iload_n hx hb dX1_of_13 rfl (lv_at hl 2 rfl) ?_
      refine lv_bipush (v := nI 7) hx hb dX1_of_14 (by decide) ?_
      refine lv_icmp_gt (tgt := 23) hx hb dX1_of_16 (by decide) (fun c_5 => ?_) (fun c_5 => ?_)
      · refine lv_iconst (v := nI 1) hx hb dX1_of_23 (by decide) ?_
        refine va_put (D := (dC, dI)) (ci := 1) (v := .int (nI 1)) (ty := .int) (C := RX1) (T := TX1) (N := 7) hx hb hts hinX1 tyX1 tyX1_ok nmX1 hown hK hP hD hS 0 rfl rfl 0 (by decide) hf26 (fun _ h9 => h9) rfl (by decide +kernel) rfl rfl (Nat.le_of_ble_eq_true rfl) dX1_of_24 (fun H locs hP hD hS => ?_)
        replace hP : va_P (dC, dI) vwCl [(y, .inr (1, [.int (nI 1), .ref a, .int (nI n), .ref b, .ref c9, .ref d, .ref v])), (a, .inl (cI, 64, .inl N)), (b, .inl (cI, 40960, .inl M)), (c9, .inl (cI, 640, .inl S)), (d, .inl (cI, 640, .inl C)), (v, .inl (cI, 640, .inl V))] H := hP
        replace hD : va_D A [(y, .inr (1, [.int (nI 1), .ref a, .int (nI n), .ref b, .ref c9, .ref d, .ref v])), (a, .inl (cI, 64, .inl N)), (b, .inl (cI, 40960, .inl M)), (c9, .inl (cI, 640, .inl S)), (d, .inl (cI, 640, .inl C)), (v, .inl (cI, 640, .inl V))] := hD
        have hok : mo_okO n (nI j) w = 1 := by rw [mo_okO, if_neg c_1, if_neg c_3, if_pos c_5]
        refine lv_aload_n hx hb dX1_of_27 rfl (lv_at hl 0 rfl) ?_
        refine va_get (D := (dC, dI)) (ci := 1) (v := .int (nI 1)) (C := RX1) (T := TX1) (N := 7) hx hb hts hinX1 hown hK hP 0 rfl rfl 0 (by decide) hf26 (fun _ h9 => h9) rfl dX1_of_28 ?_
        refine lv_if_le (tgt := 36) hx hb dX1_of_31 (by decide) (fun c_6 => ?_) (fun c_6 => ?_)
        · exact absurd c_6 (by decide)
        · refine lv_iconst (v := nI 0) hx hb dX1_of_34 (by decide) ?_
          exact wr_ret hx hb hr hlocks (by rw [hok]; rfl) (by rw [hok]) hP hK hD hS dX1_of_35
      · refine lv_iconst (v := nI 0) hx hb dX1_of_19 (by decide) ?_
        refine lv_goto (tgt := 24) hx hb dX1_of_20 (by decide) ?_
        refine va_put (D := (dC, dI)) (ci := 1) (v := .int (nI 0)) (ty := .int) (C := RX1) (T := TX1) (N := 7) hx hb hts hinX1 tyX1 tyX1_ok nmX1 hown hK hP hD hS 0 rfl rfl 0 (by decide) hf26 (fun _ h9 => h9) rfl (by decide +kernel) rfl rfl (Nat.le_of_ble_eq_true rfl) dX1_of_24 (fun H locs hP hD hS => ?_)
        replace hP : va_P (dC, dI) vwCl [(y, .inr (1, [.int (nI 0), .ref a, .int (nI n), .ref b, .ref c9, .ref d, .ref v])), (a, .inl (cI, 64, .inl N)), (b, .inl (cI, 40960, .inl M)), (c9, .inl (cI, 640, .inl S)), (d, .inl (cI, 640, .inl C)), (v, .inl (cI, 640, .inl V))] H := hP
        replace hD : va_D A [(y, .inr (1, [.int (nI 0), .ref a, .int (nI n), .ref b, .ref c9, .ref d, .ref v])), (a, .inl (cI, 64, .inl N)), (b, .inl (cI, 40960, .inl M)), (c9, .inl (cI, 640, .inl S)), (d, .inl (cI, 640, .inl C)), (v, .inl (cI, 640, .inl V))] := hD
        have hok : mo_okO n (nI j) w = 0 := by rw [mo_okO, if_neg c_1, if_neg c_3, if_neg c_5]
        refine lv_aload_n hx hb dX1_of_27 rfl (lv_at hl 0 rfl) ?_
        refine va_get (D := (dC, dI)) (ci := 1) (v := .int (nI 0)) (C := RX1) (T := TX1) (N := 7) hx hb hts hinX1 hown hK hP 0 rfl rfl 0 (by decide) hf26 (fun _ h9 => h9) rfl dX1_of_28 ?_
        refine lv_if_le (tgt := 36) hx hb dX1_of_31 (by decide) (fun c_7 => ?_) (fun c_7 => ?_)
        · refine lv_iload_n hx hb dX1_of_36 rfl (lv_at hl 1 rfl) ?_
          refine lv_istore_n (lv' := [(3, .int (nI j)), (0, .ref y), (1, .int (nI j)), (2, .int w)]) hx hb dX1_of_37 rfl hl (by decide) rfl (fun ls hl => ?_)
          refine lv_iconst (v := (-1)) hx hb dX1_of_38 (by decide) ?_
          refine lv_istore (lv' := [(4, .int (-1)), (3, .int (nI j)), (0, .ref y), (1, .int (nI j)), (2, .int w)]) hx hb dX1_of_39 hl (by decide) rfl (fun ls hl => ?_)
          refine lv_iconst (v := nI 0) hx hb dX1_of_41 (by decide) ?_
          refine lv_istore (lv' := [(5, .int (nI 0)), (4, .int (-1)), (3, .int (nI j)), (0, .ref y), (1, .int (nI j)), (2, .int w)]) hx hb dX1_of_42 hl (by decide) rfl (fun ls hl => ?_)
          obtain ⟨i, hi0⟩ : ∃ i : Nat, i = 0 := ⟨0, rfl⟩
          replace hl := lv_sub hl [3, 4, 5, 2, 1, 0] rfl
          replace hl : lv_has ls 7 [(0, .ref y), (1, .int (nI j)), (2, .int w), (3, .int (nI (mo_fi S M j i))), (4, .int (mo_be S M j i)), (5, .int (nI i))] := by rw [hi0]; exact hl
          have hib : i ≤ j := by omega
          clear hi0
          obtain ⟨zi, hzi⟩ : ∃ z : Nat, j < i + z := ⟨j + 1, by omega⟩
          induction zi generalizing i ls with
          | zero => exact absurd hzi (by omega)
          | succ zi ihi =>
            refine lv_iload hx hb dX1_of_44 (lv_at hl 5 rfl) ?_
            refine lv_iload_n hx hb dX1_of_46 rfl (lv_at hl 1 rfl) ?_
            refine lv_icmp_ge (tgt := 97) hx hb dX1_of_47 (by decide) (fun c_8 => ?_) (fun c_8 => ?_)
            · have c_8 : j ≤ i := (nI_leI (show j < 2 ^ 31 by omega) (show i < 2 ^ 31 by omega)).mp c_8
              have hij : i = j := by omega
              rw [hij] at hl
              refine lv_iload_n hx hb dX1_of_97 rfl (lv_at hl 2 rfl) ?_
              by_cases w_0 : w = nI 0
              · refine lv_is w_0 ?_
                refine lv_tableIn (off := 42) (tgt := 140) hx hb dX1_of_98 (by decide) (by decide) rfl (by decide) ?_
                refine lv_aload_n hx hb dX1_of_140 rfl (lv_at hl 0 rfl) ?_
                refine lv_iload_n hx hb dX1_of_141 rfl (lv_at hl 1 rfl) ?_
                have hcn := mo_cnt_le S M j (j + 1)
                refine rd_callV (rest := []) ⟨hx, hb, hml, hown, hts⟩ (k_X1_countOf l dC dI cI y a b c9 d v (nI 0) N n M S C V j (by omega)) (cwV 1 hts gX1_of_X1_countOf rfl rfl rfl (by decide +kernel) ⟨Nat.le_of_ble_eq_true rfl, Nat.le_of_ble_eq_true rfl⟩) hK hP rfl (q0 := 0) rfl rfl hl.1 rfl (Nat.le_of_ble_eq_true rfl) dX1_of_142 ⟨Nat.zero_le _, Nat.zero_le _⟩ ?_
                exact wr_ret hx hb hr hlocks (by rw [hok, nI_clamp (by omega)]; show _ = mo_of S M C V j w; rw [mo_of, if_pos w_0]) (by rw [hok]) hP hK hD hS dX1_of_145
              by_cases w_1 : w = nI 1
              · refine lv_is w_1 ?_
                refine lv_tableIn (off := 48) (tgt := 146) hx hb dX1_of_98 (by decide) (by decide) rfl (by decide) ?_
                refine lv_aload_n hx hb dX1_of_146 rfl (lv_at hl 0 rfl) ?_
                refine va_get (D := (dC, dI)) (ci := 1) (v := .ref d) (C := RX1) (T := TX1) (N := 7) hx hb hts hinX1 hown hK hP 0 rfl rfl 5 (by decide) hf20 (fun _ h9 => h9) rfl dX1_of_147 ?_
                refine lv_iload_n hx hb dX1_of_150 rfl (lv_at hl 1 rfl) ?_
                refine ix_iald hx hb hK hP 4 0 rfl rfl (show j < 640 by omega) (by decide) dX1_of_151 ?_
                exact wr_ret hx hb hr hlocks (by rw [hok, nI_clamp (by omega)]; show _ = mo_of S M C V j w; rw [mo_of, if_neg w_0, if_pos w_1]) (by rw [hok]) hP hK hD hS dX1_of_152
              by_cases w_2 : w = nI 2
              · refine lv_is w_2 ?_
                refine lv_tableIn (off := 55) (tgt := 153) hx hb dX1_of_98 (by decide) (by decide) rfl (by decide) ?_
                refine lv_aload_n hx hb dX1_of_153 rfl (lv_at hl 0 rfl) ?_
                refine va_get (D := (dC, dI)) (ci := 1) (v := .ref v) (C := RX1) (T := TX1) (N := 7) hx hb hts hinX1 hown hK hP 0 rfl rfl 6 (by decide) hf23 (fun _ h9 => h9) rfl dX1_of_154 ?_
                refine lv_iload_n hx hb dX1_of_157 rfl (lv_at hl 1 rfl) ?_
                refine ix_iald hx hb hK hP 5 0 rfl rfl (show j < 640 by omega) (by decide) dX1_of_158 ?_
                exact wr_ret hx hb hr hlocks (by rw [hok, nI_clamp (by omega)]; show _ = mo_of S M C V j w; rw [mo_of, if_neg w_0, if_neg w_1, if_pos w_2]) (by rw [hok]) hP hK hD hS dX1_of_159
              by_cases w_3 : w = nI 3
              · refine lv_is w_3 ?_
                refine lv_tableIn (off := 62) (tgt := 160) hx hb dX1_of_98 (by decide) (by decide) rfl (by decide) ?_
                refine lv_iload_n hx hb dX1_of_160 rfl (lv_at hl 3 rfl) ?_
                exact wr_ret hx hb hr hlocks (by rw [hok, nI_clamp (by omega)]; show _ = mo_of S M C V j w; rw [mo_of, if_neg w_0, if_neg w_1, if_neg w_2, if_pos w_3]) (by rw [hok]) hP hK hD hS dX1_of_161
              by_cases w_4 : w = nI 4
              · refine lv_is w_4 ?_
                refine lv_tableIn (off := 64) (tgt := 162) hx hb dX1_of_98 (by decide) (by decide) rfl (by decide) ?_
                refine lv_iload hx hb dX1_of_162 (lv_at hl 4 rfl) ?_
                exact wr_ret hx hb hr hlocks (by rw [hok, nI_clamp (by omega)]; show _ = mo_of S M C V j w; rw [mo_of, if_neg w_0, if_neg w_1, if_neg w_2, if_neg w_3, if_pos w_4]) (by rw [hok]) hP hK hD hS dX1_of_164
              by_cases w_5 : w = nI 5
              · refine lv_is w_5 ?_
                refine lv_tableIn (off := 67) (tgt := 165) hx hb dX1_of_98 (by decide) (by decide) rfl (by decide) ?_
                refine lv_aload_n hx hb dX1_of_165 rfl (lv_at hl 0 rfl) ?_
                refine va_get (D := (dC, dI)) (ci := 1) (v := .ref c9) (C := RX1) (T := TX1) (N := 7) hx hb hts hinX1 hown hK hP 0 rfl rfl 4 (by decide) hf17 (fun _ h9 => h9) rfl dX1_of_166 ?_
                refine lv_iload_n hx hb dX1_of_169 rfl (lv_at hl 1 rfl) ?_
                refine ix_iald hx hb hK hP 3 0 rfl rfl (show j < 640 by omega) (by decide) dX1_of_170 ?_
                exact wr_ret hx hb hr hlocks (by rw [hok, nI_clamp (by omega)]; show _ = mo_of S M C V j w; rw [mo_of, if_neg w_0, if_neg w_1, if_neg w_2, if_neg w_3, if_neg w_4, if_pos w_5]) (by rw [hok]) hP hK hD hS dX1_of_171
              by_cases w_6 : w = nI 6
              · refine lv_is w_6 ?_
                refine lv_tableIn (off := 74) (tgt := 172) hx hb dX1_of_98 (by decide) (by decide) rfl (by decide) ?_
                refine lv_aload_n hx hb dX1_of_172 rfl (lv_at hl 0 rfl) ?_
                refine lv_iload_n hx hb dX1_of_173 rfl (lv_at hl 1 rfl) ?_
                refine rd_callV (rest := []) ⟨hx, hb, hml, hown, hts⟩ (k_X1_isDead l dC dI cI y a b c9 d v (nI 0) N n M S C V j (by omega)) (cwV 1 hts gX1_of_X1_isDead rfl rfl rfl (by decide +kernel) ⟨Nat.le_of_ble_eq_true rfl, Nat.le_of_ble_eq_true rfl⟩) hK hP rfl (q0 := 0) rfl rfl hl.1 rfl (Nat.le_of_ble_eq_true rfl) dX1_of_174 ⟨Nat.zero_le _, Nat.zero_le _⟩ ?_
                refine lv_if_eq (tgt := 184) hx hb dX1_of_177 (by decide) (fun c_9 => ?_) (fun c_9 => ?_)
                · refine lv_iconst (v := nI 0) hx hb dX1_of_184 (by decide) ?_
                  exact wr_ret hx hb hr hlocks (by rw [hok, nI_clamp (by omega)]; show _ = mo_of S M C V j w; rw [mo_of, if_neg w_0, if_neg w_1, if_neg w_2, if_neg w_3, if_neg w_4, if_neg w_5, if_pos w_6, if_pos c_9]) (by rw [hok]) hP hK hD hS dX1_of_185
                · refine lv_iconst (v := nI 1) hx hb dX1_of_180 (by decide) ?_
                  refine lv_goto (tgt := 185) hx hb dX1_of_181 (by decide) ?_
                  exact wr_ret hx hb hr hlocks (by rw [hok, nI_clamp (by omega)]; show _ = mo_of S M C V j w; rw [mo_of, if_neg w_0, if_neg w_1, if_neg w_2, if_neg w_3, if_neg w_4, if_neg w_5, if_pos w_6, if_neg c_9]) (by rw [hok]) hP hK hD hS dX1_of_185
              have hOut : w.toInt < 0 ∨ 6 < w.toInt := by
                have q0 := lv_neT w_0 (show (nI 0).toInt = 0 from rfl)
                have q1 := lv_neT w_1 (show (nI 1).toInt = 1 from rfl)
                have q2 := lv_neT w_2 (show (nI 2).toInt = 2 from rfl)
                have q3 := lv_neT w_3 (show (nI 3).toInt = 3 from rfl)
                have q4 := lv_neT w_4 (show (nI 4).toInt = 4 from rfl)
                have q5 := lv_neT w_5 (show (nI 5).toInt = 5 from rfl)
                have q6 := lv_neT w_6 (show (nI 6).toInt = 6 from rfl)
                omega
              refine lv_tableOut (tgt := 186) hx hb dX1_of_98 hOut (by decide) ?_
              refine lv_bipush (v := nI 64) hx hb dX1_of_186 (by decide) ?_
              refine lv_aload_n hx hb dX1_of_188 rfl (lv_at hl 0 rfl) ?_
              refine lv_iload_n hx hb dX1_of_189 rfl (lv_at hl 1 rfl) ?_
              refine lv_iconst (v := nI 0) hx hb dX1_of_190 (by decide) ?_
              have hcnnI0 := mo_hm_le M j (nI 0) 64
              refine rd_callV (rest := [.int (nI 64)]) ⟨hx, hb, hml, hown, hts⟩ (k_X1_howMany l dC dI cI y a b c9 d v (nI 0) N n M S C V j (nI 0) (by omega)) (cwV 2 hts gX1_of_X1_howMany rfl rfl rfl (by decide +kernel) ⟨Nat.le_of_ble_eq_true rfl, Nat.le_of_ble_eq_true rfl⟩) hK hP rfl (q0 := 0) rfl rfl hl.1 rfl (Nat.le_of_ble_eq_true rfl) dX1_of_191 ⟨Nat.zero_le _, Nat.zero_le _⟩ ?_
              refine lv_isub hx hb dX1_of_194 ?_
              refine lv_is (pk_sub (by omega)) ?_
              exact wr_ret hx hb hr hlocks (by rw [hok, nI_clamp (by omega)]; show _ = mo_of S M C V j w; rw [mo_of, if_neg w_0, if_neg w_1, if_neg w_2, if_neg w_3, if_neg w_4, if_neg w_5, if_neg w_6]) (by rw [hok]) hP hK hD hS dX1_of_195
            · have c_8 : ¬ (j ≤ i) := fun h => c_8 ((nI_leI (show j < 2 ^ 31 by omega) (show i < 2 ^ 31 by omega)).mpr h)
              have hfl := mo_fi_le S M j i
              refine lv_aload_n hx hb dX1_of_50 rfl (lv_at hl 0 rfl) ?_
              refine lv_iload_n hx hb dX1_of_51 rfl (lv_at hl 1 rfl) ?_
              refine lv_iload hx hb dX1_of_52 (lv_at hl 5 rfl) ?_
              refine rd_callV (rest := []) ⟨hx, hb, hml, hown, hts⟩ (k_X1_isSame l dC dI cI y a b c9 d v (nI 0) N n M S C V j i (by omega) (by omega)) (cwV 2 hts gX1_of_X1_isSame rfl rfl rfl (by decide +kernel) ⟨Nat.le_of_ble_eq_true rfl, Nat.le_of_ble_eq_true rfl⟩) hK hP rfl (q0 := 0) rfl rfl hl.1 rfl (Nat.le_of_ble_eq_true rfl) dX1_of_54 ⟨Nat.zero_le _, Nat.zero_le _⟩ ?_
              refine lv_istore (lv' := [(6, .int (mo_sm S M j i 64)), (0, .ref y), (1, .int (nI j)), (2, .int w), (3, .int (nI (mo_fi S M j i))), (4, .int (mo_be S M j i)), (5, .int (nI i))]) hx hb dX1_of_57 hl (by decide) rfl (fun ls hl => ?_)
              refine lv_iload hx hb dX1_of_59 (lv_at hl 0 rfl) ?_
              refine lv_if_eq (tgt := 75) hx hb dX1_of_61 (by decide) (fun c_10 => ?_) (fun c_10 => ?_)
              · refine lv_iload_n hx hb dX1_of_75 rfl (lv_at hl 4 rfl) ?_
                refine lv_istore_n (lv' := [(3, .int (nI (mo_fi S M j i))), (6, .int (mo_sm S M j i 64)), (0, .ref y), (1, .int (nI j)), (2, .int w), (4, .int (mo_be S M j i)), (5, .int (nI i))]) hx hb dX1_of_76 rfl hl (by decide) rfl (fun ls hl => ?_)
                refine lv_iload hx hb dX1_of_77 (lv_at hl 1 rfl) ?_
                refine lv_if_eq (tgt := 87) hx hb dX1_of_79 (by decide) (fun c_11 => ?_) (fun c_11 => ?_)
                · refine lv_iload hx hb dX1_of_87 (lv_at hl 5 rfl) ?_
                  refine lv_istore (lv' := [(4, .int (mo_be S M j i)), (3, .int (nI (mo_fi S M j i))), (6, .int (mo_sm S M j i 64)), (0, .ref y), (1, .int (nI j)), (2, .int w), (5, .int (nI i))]) hx hb dX1_of_89 hl (by decide) rfl (fun ls hl => ?_)
                  refine lv_iinc (v := nI (i + 1)) (lv' := [(5, .int (nI (i + 1))), (4, .int (mo_be S M j i)), (3, .int (nI (mo_fi S M j i))), (6, .int (mo_sm S M j i 64)), (0, .ref y), (1, .int (nI j)), (2, .int w)]) hx hb dX1_of_91 hl (k := 6) rfl (nI_1 _) (by decide) rfl (fun ls hl => ?_)
                  refine lv_goto (tgt := 44) hx hb dX1_of_94 (by decide) ?_
                  have e1 : mo_fi S M j i = mo_fi S M j (i + 1) := by rw [mo_fi, if_pos c_10]
                  have e2 : mo_be S M j i = mo_be S M j (i + 1) := by rw [mo_be, if_pos c_10]
                  replace hl : lv_has ls 7 [(5, .int (nI (i + 1))), (4, .int (mo_be S M j (i + 1))), (3, .int (nI (mo_fi S M j (i + 1)))), (6, .int (mo_sm S M j i 64)), (0, .ref y), (1, .int (nI j)), (2, .int w)] := by rw [← e1, ← e2]; exact hl
                  exact ihi _ _ (lv_sub hl [4, 5, 6, 2, 1, 0] rfl) (by omega) (by omega)
                · exact absurd c_10 c_11
              · refine lv_iload hx hb dX1_of_64 (lv_at hl 6 rfl) ?_
                refine lv_iload_n hx hb dX1_of_66 rfl (lv_at hl 4 rfl) ?_
                refine lv_icmp_ge (tgt := 75) hx hb dX1_of_67 (by decide) (fun c_12 => ?_) (fun c_12 => ?_)
                · have c_12 : (mo_fi S M j i) ≤ i := (nI_leI (show mo_fi S M j i < 2 ^ 31 by omega) (show i < 2 ^ 31 by omega)).mp c_12
                  refine lv_iload_n hx hb dX1_of_75 rfl (lv_at hl 4 rfl) ?_
                  refine lv_istore_n (lv' := [(3, .int (nI (mo_fi S M j i))), (6, .int (mo_sm S M j i 64)), (0, .ref y), (1, .int (nI j)), (2, .int w), (4, .int (mo_be S M j i)), (5, .int (nI i))]) hx hb dX1_of_76 rfl hl (by decide) rfl (fun ls hl => ?_)
                  refine lv_iload hx hb dX1_of_77 (lv_at hl 1 rfl) ?_
                  refine lv_if_eq (tgt := 87) hx hb dX1_of_79 (by decide) (fun c_13 => ?_) (fun c_13 => ?_)
                  · exact absurd c_13 c_10
                  · refine lv_iload hx hb dX1_of_82 (lv_at hl 6 rfl) ?_
                    refine lv_goto (tgt := 89) hx hb dX1_of_84 (by decide) ?_
                    refine lv_istore (lv' := [(4, .int (nI i)), (3, .int (nI (mo_fi S M j i))), (6, .int (mo_sm S M j i 64)), (0, .ref y), (1, .int (nI j)), (2, .int w), (5, .int (nI i))]) hx hb dX1_of_89 hl (by decide) rfl (fun ls hl => ?_)
                    refine lv_iinc (v := nI (i + 1)) (lv' := [(5, .int (nI (i + 1))), (4, .int (nI i)), (3, .int (nI (mo_fi S M j i))), (6, .int (mo_sm S M j i 64)), (0, .ref y), (1, .int (nI j)), (2, .int w)]) hx hb dX1_of_91 hl (k := 6) rfl (nI_1 _) (by decide) rfl (fun ls hl => ?_)
                    refine lv_goto (tgt := 44) hx hb dX1_of_94 (by decide) ?_
                    have e1 : mo_fi S M j i = mo_fi S M j (i + 1) := by rw [mo_fi, if_neg c_10, if_pos c_12]
                    have e2 : nI i = mo_be S M j (i + 1) := by rw [mo_be, if_neg c_10]
                    replace hl : lv_has ls 7 [(5, .int (nI (i + 1))), (4, .int (mo_be S M j (i + 1))), (3, .int (nI (mo_fi S M j (i + 1)))), (6, .int (mo_sm S M j i 64)), (0, .ref y), (1, .int (nI j)), (2, .int w)] := by rw [← e1, ← e2]; exact hl
                    exact ihi _ _ (lv_sub hl [4, 5, 6, 2, 1, 0] rfl) (by omega) (by omega)
                · have c_12 : ¬ ((mo_fi S M j i) ≤ i) := fun h => c_12 ((nI_leI (show mo_fi S M j i < 2 ^ 31 by omega) (show i < 2 ^ 31 by omega)).mpr h)
                  refine lv_iload hx hb dX1_of_70 (lv_at hl 6 rfl) ?_
                  refine lv_goto (tgt := 76) hx hb dX1_of_72 (by decide) ?_
                  refine lv_istore_n (lv' := [(3, .int (nI i)), (6, .int (mo_sm S M j i 64)), (0, .ref y), (1, .int (nI j)), (2, .int w), (4, .int (mo_be S M j i)), (5, .int (nI i))]) hx hb dX1_of_76 rfl hl (by decide) rfl (fun ls hl => ?_)
                  refine lv_iload hx hb dX1_of_77 (lv_at hl 1 rfl) ?_
                  refine lv_if_eq (tgt := 87) hx hb dX1_of_79 (by decide) (fun c_14 => ?_) (fun c_14 => ?_)
                  · exact absurd c_14 c_10
                  · refine lv_iload hx hb dX1_of_82 (lv_at hl 6 rfl) ?_
                    refine lv_goto (tgt := 89) hx hb dX1_of_84 (by decide) ?_
                    refine lv_istore (lv' := [(4, .int (nI i)), (3, .int (nI i)), (6, .int (mo_sm S M j i 64)), (0, .ref y), (1, .int (nI j)), (2, .int w), (5, .int (nI i))]) hx hb dX1_of_89 hl (by decide) rfl (fun ls hl => ?_)
                    refine lv_iinc (v := nI (i + 1)) (lv' := [(5, .int (nI (i + 1))), (4, .int (nI i)), (3, .int (nI i)), (6, .int (mo_sm S M j i 64)), (0, .ref y), (1, .int (nI j)), (2, .int w)]) hx hb dX1_of_91 hl (k := 6) rfl (nI_1 _) (by decide) rfl (fun ls hl => ?_)
                    refine lv_goto (tgt := 44) hx hb dX1_of_94 (by decide) ?_
                    have e1 : i = mo_fi S M j (i + 1) := by rw [mo_fi, if_neg c_10, if_neg c_12]
                    have e2 : nI i = mo_be S M j (i + 1) := by rw [mo_be, if_neg c_10]
                    replace hl : lv_has ls 7 [(5, .int (nI (i + 1))), (4, .int (mo_be S M j (i + 1))), (3, .int (nI (mo_fi S M j (i + 1)))), (6, .int (mo_sm S M j i 64)), (0, .ref y), (1, .int (nI j)), (2, .int w)] := by rw [← e1, ← e2]; exact hl
                    exact ihi _ _ (lv_sub hl [4, 5, 6, 2, 1, 0] rfl) (by omega) (by omega)
        · exact absurd (by decide) c_7
set_option maxHeartbeats 4000000 in
set_option maxRecDepth 100000 in
theorem k_X1_men (l : Launch) (dC : Nat → ClassId) (dI : Nat → Nat → Nat) (cI : ClassId) (y a b c9 d v : Nat) (th : Int32) (N : Nat → Int32) (n : Nat) (M S C V : Nat → Int32) (i q : Int32) (sz : Nat) (hn : n ≤ 640) : Met l yX1_men wsX1_men ({ frames := 1, cells := 0, slots := 0, locals := 21 } : Room) (wr (dC, dI) (wM cI y a b c9 d v th N n M S C V) (tM cI) sz [.ref y, .int i, .int q]) (wrL (dC, dI) (wM cI y a b c9 d v (nI (mo_okM n i q)) N n M S C V) (tM cI) (va_A (wM cI y a b c9 d v th N n M S C V) sz) (fun r => r = sel (mo_okM n i q) (mo_mn M i.toNatClampNeg q.toNatClampNeg 16) 0)) 0 0 (va_A (wM cI y a b c9 d v th N n M S C V) sz) := by
  refine Met.ofW (cc := cX1_men) (maxL := 6) (ret := (some .long)) (by decide) rfl ?_
  intro p e s m args below meth c s₁ B hml hv
  obtain ⟨rfl, hsz, hP, hK, hD0⟩ := hv
  have hx := B.exec
  have hb := B.bytes
  have hr := B.returns
  have hts := atoms_spec (ws := wsX1_men) B.pre
  have hown : s.vm.findClass RX1 = some m.cls := findClass_of_methodNamed B.named
  have hlocks := B.notSynchronized
  have hinX1 : ∀ w ∈ u_ws RX1 TX1 7, w ∈ wsX1_men := by decide +kernel
  have hf14 := hts (.fieldLink RX1 14 "GameArbiterModel" "men" "[I") (by decide +kernel)
  have hf26 := hts (.fieldLink RX1 26 "GameArbiterModel" "thrown" "I") (by decide +kernel)
  have hl := lv_entry ([.ref y, .int i, .int q]) (n := 6) (Nat.le_of_ble_eq_true rfl)
  rw [lg_entry_eq]
  generalize (lg_sl ([.ref y, .int i, .int q]) ++ List.replicate (6 - (lg_sl ([.ref y, .int i, .int q])).length) Slot.unset).toArray = ls at hl ⊢
  replace hl : lv_has ls 6 [(0, .ref y), (1, .int i), (2, .int q)] := hl
  subst hsz
  have hD := hD0.self (sz := s.heap.size)
  generalize hAe : va_A (wM cI y a b c9 d v th N n M S C V) s.heap.size = A at hD ⊢
  have hA : ∀ q : Nat, s.heap.size ≤ q → A q := fun q h => by rw [← hAe]; exact Or.inr h
  have hS : va_S A s.heap s.heap [] := va_S.rf
  replace hP : va_P (dC, dI) vwCl [(y, .inr (1, [.int th, .ref a, .int (nI n), .ref b, .ref c9, .ref d, .ref v])), (a, .inl (cI, 64, .inl N)), (b, .inl (cI, 40960, .inl M)), (c9, .inl (cI, 640, .inl S)), (d, .inl (cI, 640, .inl C)), (v, .inl (cI, 640, .inl V))] s.heap := hP
  replace hD : va_D A [(y, .inr (1, [.int th, .ref a, .int (nI n), .ref b, .ref c9, .ref d, .ref v])), (a, .inl (cI, 64, .inl N)), (b, .inl (cI, 40960, .inl M)), (c9, .inl (cI, 640, .inl S)), (d, .inl (cI, 640, .inl C)), (v, .inl (cI, 640, .inl V))] := hD
  refine lv_aload_n hx hb dX1_men_0 rfl (lv_at hl 0 rfl) ?_
  refine lv_aload_n hx hb dX1_men_1 rfl (lv_at hl 0 rfl) ?_
  refine lv_iload_n hx hb dX1_men_2 rfl (lv_at hl 1 rfl) ?_
  refine rd_callV (rest := [.ref y]) ⟨hx, hb, hml, hown, hts⟩ (k_X1_isIn l dC dI cI y a b c9 d v th N n M S C V i) (cwV 1 hts gX1_men_X1_isIn rfl rfl rfl (by decide +kernel) ⟨Nat.le_of_ble_eq_true rfl, Nat.le_of_ble_eq_true rfl⟩) hK hP rfl (q0 := 0) rfl rfl hl.1 rfl (Nat.le_of_ble_eq_true rfl) dX1_men_3 ⟨Nat.zero_le _, Nat.zero_le _⟩ ?_
  refine lv_if_eq (tgt := 22) hx hb dX1_men_6 (by decide) (fun c_1 => ?_) (fun c_1 => ?_)
  · refine lv_iconst (v := nI 1) hx hb dX1_men_22 (by decide) ?_
    refine va_put (D := (dC, dI)) (ci := 1) (v := .int (nI 1)) (ty := .int) (C := RX1) (T := TX1) (N := 7) hx hb hts hinX1 tyX1 tyX1_ok nmX1 hown hK hP hD hS 0 rfl rfl 0 (by decide) hf26 (fun _ h9 => h9) rfl (by decide +kernel) rfl rfl (Nat.le_of_ble_eq_true rfl) dX1_men_23 (fun H locs hP hD hS => ?_)
    replace hP : va_P (dC, dI) vwCl [(y, .inr (1, [.int (nI 1), .ref a, .int (nI n), .ref b, .ref c9, .ref d, .ref v])), (a, .inl (cI, 64, .inl N)), (b, .inl (cI, 40960, .inl M)), (c9, .inl (cI, 640, .inl S)), (d, .inl (cI, 640, .inl C)), (v, .inl (cI, 640, .inl V))] H := hP
    replace hD : va_D A [(y, .inr (1, [.int (nI 1), .ref a, .int (nI n), .ref b, .ref c9, .ref d, .ref v])), (a, .inl (cI, 64, .inl N)), (b, .inl (cI, 40960, .inl M)), (c9, .inl (cI, 640, .inl S)), (d, .inl (cI, 640, .inl C)), (v, .inl (cI, 640, .inl V))] := hD
    have hok : mo_okM n i q = 1 := by rw [mo_okM, if_pos c_1]
    refine lv_aload_n hx hb dX1_men_26 rfl (lv_at hl 0 rfl) ?_
    refine va_get (D := (dC, dI)) (ci := 1) (v := .int (nI 1)) (C := RX1) (T := TX1) (N := 7) hx hb hts hinX1 hown hK hP 0 rfl rfl 0 (by decide) hf26 (fun _ h9 => h9) rfl dX1_men_27 ?_
    refine lv_if_le (tgt := 35) hx hb dX1_men_30 (by decide) (fun c_2 => ?_) (fun c_2 => ?_)
    · exact absurd c_2 (by decide)
    · refine lv_lconst (v := 0) hx hb dX1_men_33 (by decide) ?_
      exact wr_retl hx hb hr hlocks (by rw [hok]; rfl) (by rw [hok]) hP hK hD hS dX1_men_34
  · obtain ⟨j, hj, rfl⟩ := ga_isPos_nat hn c_1
    refine lv_iload_n hx hb dX1_men_9 rfl (lv_at hl 2 rfl) ?_
    refine lv_if_lt (tgt := 22) hx hb dX1_men_10 (by decide) (fun c_3 => ?_) (fun c_3 => ?_)
    · refine lv_iconst (v := nI 1) hx hb dX1_men_22 (by decide) ?_
      refine va_put (D := (dC, dI)) (ci := 1) (v := .int (nI 1)) (ty := .int) (C := RX1) (T := TX1) (N := 7) hx hb hts hinX1 tyX1 tyX1_ok nmX1 hown hK hP hD hS 0 rfl rfl 0 (by decide) hf26 (fun _ h9 => h9) rfl (by decide +kernel) rfl rfl (Nat.le_of_ble_eq_true rfl) dX1_men_23 (fun H locs hP hD hS => ?_)
      replace hP : va_P (dC, dI) vwCl [(y, .inr (1, [.int (nI 1), .ref a, .int (nI n), .ref b, .ref c9, .ref d, .ref v])), (a, .inl (cI, 64, .inl N)), (b, .inl (cI, 40960, .inl M)), (c9, .inl (cI, 640, .inl S)), (d, .inl (cI, 640, .inl C)), (v, .inl (cI, 640, .inl V))] H := hP
      replace hD : va_D A [(y, .inr (1, [.int (nI 1), .ref a, .int (nI n), .ref b, .ref c9, .ref d, .ref v])), (a, .inl (cI, 64, .inl N)), (b, .inl (cI, 40960, .inl M)), (c9, .inl (cI, 640, .inl S)), (d, .inl (cI, 640, .inl C)), (v, .inl (cI, 640, .inl V))] := hD
      have hok : mo_okM n (nI j) q = 1 := by rw [mo_okM, if_neg c_1, if_pos c_3]
      refine lv_aload_n hx hb dX1_men_26 rfl (lv_at hl 0 rfl) ?_
      refine va_get (D := (dC, dI)) (ci := 1) (v := .int (nI 1)) (C := RX1) (T := TX1) (N := 7) hx hb hts hinX1 hown hK hP 0 rfl rfl 0 (by decide) hf26 (fun _ h9 => h9) rfl dX1_men_27 ?_
      refine lv_if_le (tgt := 35) hx hb dX1_men_30 (by decide) (fun c_4 => ?_) (fun c_4 => ?_)
      · exact absurd c_4 (by decide)
      · refine lv_lconst (v := 0) hx hb dX1_men_33 (by decide) ?_
        exact wr_retl hx hb hr hlocks (by rw [hok]; rfl) (by rw [hok]) hP hK hD hS dX1_men_34
    · refine lv_iload_n hx hb dX1_men_13 rfl (lv_at hl 2 rfl) ?_
      refine lv_iconst (v := nI 3) hx hb dX1_men_14 (by decide) ?_
      refine lv_icmp_gt (tgt := 22) hx hb dX1_men_15 (by decide) (fun c_5 => ?_) (fun c_5 => ?_)
      · refine lv_iconst (v := nI 1) hx hb dX1_men_22 (by decide) ?_
        refine va_put (D := (dC, dI)) (ci := 1) (v := .int (nI 1)) (ty := .int) (C := RX1) (T := TX1) (N := 7) hx hb hts hinX1 tyX1 tyX1_ok nmX1 hown hK hP hD hS 0 rfl rfl 0 (by decide) hf26 (fun _ h9 => h9) rfl (by decide +kernel) rfl rfl (Nat.le_of_ble_eq_true rfl) dX1_men_23 (fun H locs hP hD hS => ?_)
        replace hP : va_P (dC, dI) vwCl [(y, .inr (1, [.int (nI 1), .ref a, .int (nI n), .ref b, .ref c9, .ref d, .ref v])), (a, .inl (cI, 64, .inl N)), (b, .inl (cI, 40960, .inl M)), (c9, .inl (cI, 640, .inl S)), (d, .inl (cI, 640, .inl C)), (v, .inl (cI, 640, .inl V))] H := hP
        replace hD : va_D A [(y, .inr (1, [.int (nI 1), .ref a, .int (nI n), .ref b, .ref c9, .ref d, .ref v])), (a, .inl (cI, 64, .inl N)), (b, .inl (cI, 40960, .inl M)), (c9, .inl (cI, 640, .inl S)), (d, .inl (cI, 640, .inl C)), (v, .inl (cI, 640, .inl V))] := hD
        have hok : mo_okM n (nI j) q = 1 := by rw [mo_okM, if_neg c_1, if_neg c_3, if_pos c_5]
        refine lv_aload_n hx hb dX1_men_26 rfl (lv_at hl 0 rfl) ?_
        refine va_get (D := (dC, dI)) (ci := 1) (v := .int (nI 1)) (C := RX1) (T := TX1) (N := 7) hx hb hts hinX1 hown hK hP 0 rfl rfl 0 (by decide) hf26 (fun _ h9 => h9) rfl dX1_men_27 ?_
        refine lv_if_le (tgt := 35) hx hb dX1_men_30 (by decide) (fun c_6 => ?_) (fun c_6 => ?_)
        · exact absurd c_6 (by decide)
        · refine lv_lconst (v := 0) hx hb dX1_men_33 (by decide) ?_
          exact wr_retl hx hb hr hlocks (by rw [hok]; rfl) (by rw [hok]) hP hK hD hS dX1_men_34
      · obtain ⟨jb, hjb, rfl⟩ := nI_of c_3
        have hj3 : jb ≤ 3 := by
          rcases Nat.lt_or_ge 3 jb with q | q
          · exact absurd (nI_lt q hjb) c_5
          · exact q
        refine lv_iconst (v := nI 0) hx hb dX1_men_18 (by decide) ?_
        refine lv_goto (tgt := 23) hx hb dX1_men_19 (by decide) ?_
        refine va_put (D := (dC, dI)) (ci := 1) (v := .int (nI 0)) (ty := .int) (C := RX1) (T := TX1) (N := 7) hx hb hts hinX1 tyX1 tyX1_ok nmX1 hown hK hP hD hS 0 rfl rfl 0 (by decide) hf26 (fun _ h9 => h9) rfl (by decide +kernel) rfl rfl (Nat.le_of_ble_eq_true rfl) dX1_men_23 (fun H locs hP hD hS => ?_)
        replace hP : va_P (dC, dI) vwCl [(y, .inr (1, [.int (nI 0), .ref a, .int (nI n), .ref b, .ref c9, .ref d, .ref v])), (a, .inl (cI, 64, .inl N)), (b, .inl (cI, 40960, .inl M)), (c9, .inl (cI, 640, .inl S)), (d, .inl (cI, 640, .inl C)), (v, .inl (cI, 640, .inl V))] H := hP
        replace hD : va_D A [(y, .inr (1, [.int (nI 0), .ref a, .int (nI n), .ref b, .ref c9, .ref d, .ref v])), (a, .inl (cI, 64, .inl N)), (b, .inl (cI, 40960, .inl M)), (c9, .inl (cI, 640, .inl S)), (d, .inl (cI, 640, .inl C)), (v, .inl (cI, 640, .inl V))] := hD
        have hok : mo_okM n (nI j) (nI jb) = 0 := by rw [mo_okM, if_neg c_1, if_neg c_3, if_neg c_5]
        refine lv_aload_n hx hb dX1_men_26 rfl (lv_at hl 0 rfl) ?_
        refine va_get (D := (dC, dI)) (ci := 1) (v := .int (nI 0)) (C := RX1) (T := TX1) (N := 7) hx hb hts hinX1 hown hK hP 0 rfl rfl 0 (by decide) hf26 (fun _ h9 => h9) rfl dX1_men_27 ?_
        refine lv_if_le (tgt := 35) hx hb dX1_men_30 (by decide) (fun c_7 => ?_) (fun c_7 => ?_)
        · refine lv_lconst (v := 0) hx hb dX1_men_35 (by decide) ?_
          refine lv_lstore_n (lv' := [(3, .long 0), (0, .ref y), (1, .int (nI j)), (2, .int (nI jb))]) hx hb dX1_men_36 rfl hl (by decide) rfl (fun ls hl => ?_)
          refine lv_iconst (v := nI 0) hx hb dX1_men_37 (by decide) ?_
          refine lv_istore (lv' := [(5, .int (nI 0)), (3, .long 0), (0, .ref y), (1, .int (nI j)), (2, .int (nI jb))]) hx hb dX1_men_38 hl (by decide) rfl (fun ls hl => ?_)
          obtain ⟨i, hi0⟩ : ∃ i : Nat, i = 0 := ⟨0, rfl⟩
          replace hl := lv_sub hl [2, 3, 4, 1, 0] rfl
          replace hl : lv_has ls 6 [(0, .ref y), (1, .int (nI j)), (2, .int (nI jb)), (3, .long (mo_mn M j jb i)), (5, .int (nI i))] := by rw [hi0]; exact hl
          have hib : i ≤ 16 := by omega
          clear hi0
          obtain ⟨zi, hzi⟩ : ∃ z : Nat, 16 < i + z := ⟨16 + 1, by omega⟩
          induction zi generalizing i ls with
          | zero => exact absurd hzi (by omega)
          | succ zi ihi =>
            refine lv_iload hx hb dX1_men_40 (lv_at hl 4 rfl) ?_
            refine lv_bipush (v := nI 16) hx hb dX1_men_42 (by decide) ?_
            refine lv_icmp_ge (tgt := 76) hx hb dX1_men_44 (by decide) (fun c_8 => ?_) (fun c_8 => ?_)
            · have c_8 : 16 ≤ i := (nI_leI (show 16 < 2 ^ 31 by omega) (show i < 2 ^ 31 by omega)).mp c_8
              refine lv_lload_n hx hb dX1_men_76 rfl (lv_at hl 3 rfl) ?_
              exact wr_retl hx hb hr hlocks (by rw [hok, nI_clamp (by omega), nI_clamp (by omega), show i = 16 by omega]; rfl) (by rw [hok]) hP hK hD hS dX1_men_77
            · have c_8 : ¬ (16 ≤ i) := fun h => c_8 ((nI_leI (show 16 < 2 ^ 31 by omega) (show i < 2 ^ 31 by omega)).mpr h)
              refine lv_lload_n hx hb dX1_men_47 rfl (lv_at hl 3 rfl) ?_
              refine lv_iconst (v := nI 4) hx hb dX1_men_48 (by decide) ?_
              refine lv_lshl (v := (mo_mn M j jb i) <<< ((nI 4).toInt64 &&& 63)) hx hb dX1_men_49 rfl ?_
              refine lv_aload_n hx hb dX1_men_50 rfl (lv_at hl 0 rfl) ?_
              refine va_get (D := (dC, dI)) (ci := 1) (v := .ref b) (C := RX1) (T := TX1) (N := 7) hx hb hts hinX1 hown hK hP 0 rfl rfl 3 (by decide) hf14 (fun _ h9 => h9) rfl dX1_men_51 ?_
              refine lv_bipush (v := nI 64) hx hb dX1_men_54 (by decide) ?_
              refine lv_iload_n hx hb dX1_men_56 rfl (lv_at hl 1 rfl) ?_
              refine lv_imul hx hb dX1_men_57 ?_
              refine lv_is (pk_mul _ _) ?_
              refine lv_bipush (v := nI 16) hx hb dX1_men_58 (by decide) ?_
              refine lv_iload_n hx hb dX1_men_60 rfl (lv_at hl 2 rfl) ?_
              refine lv_imul hx hb dX1_men_61 ?_
              refine lv_is (pk_mul _ _) ?_
              refine lv_iadd hx hb dX1_men_62 ?_
              refine lv_is (nI_add _ _) ?_
              refine lv_iload hx hb dX1_men_63 (lv_at hl 4 rfl) ?_
              refine lv_iadd hx hb dX1_men_65 ?_
              refine lv_is (nI_add _ _) ?_
              refine ix_iald hx hb hK hP 2 0 rfl rfl (show ((64 * j) + (16 * jb)) + i < 40960 by omega) (by decide) dX1_men_66 ?_
              refine lv_i2l (v := (M (((64 * j) + (16 * jb)) + i)).toInt64) hx hb dX1_men_67 rfl ?_
              refine lv_lor hx hb dX1_men_68 ?_
              refine lv_isl (y := mo_mn M j jb (i + 1)) rfl ?_
              refine lv_lstore_n (lv' := [(3, .long (mo_mn M j jb (i + 1))), (0, .ref y), (1, .int (nI j)), (2, .int (nI jb)), (5, .int (nI i))]) hx hb dX1_men_69 rfl hl (by decide) rfl (fun ls hl => ?_)
              refine lv_iinc (v := nI (i + 1)) (lv' := [(5, .int (nI (i + 1))), (3, .long (mo_mn M j jb (i + 1))), (0, .ref y), (1, .int (nI j)), (2, .int (nI jb))]) hx hb dX1_men_70 hl (k := 4) rfl (nI_1 _) (by decide) rfl (fun ls hl => ?_)
              refine lv_goto (tgt := 40) hx hb dX1_men_73 (by decide) ?_
              exact ihi _ _ (lv_sub hl [2, 3, 4, 1, 0] rfl) (by omega) (by omega)
        · exact absurd (by decide) c_7
set_option maxHeartbeats 4000000 in
set_option maxRecDepth 100000 in
theorem k_X1_times (l : Launch) (dC : Nat → ClassId) (dI : Nat → Nat → Nat) (cI : ClassId) (y a b c9 d v : Nat) (th : Int32) (N : Nat → Int32) (n : Nat) (M S C V : Nat → Int32) (q : Int32) (sz : Nat) (hn : n ≤ 640) : Met l yX1_times wsX1_times ({ frames := 1, cells := 0, slots := 0, locals := 24 } : Room) (wr (dC, dI) (wM cI y a b c9 d v th N n M S C V) (tM cI) sz [.ref y, .int q]) (wrQ (dC, dI) (wM cI y a b c9 d v (nI (mo_okT q)) N n M S C V) (tM cI) (va_A (wM cI y a b c9 d v th N n M S C V) sz) (fun r => r = sel (mo_okT q) (nI (mo_tm S M N q n)) (nI 0))) 0 0 (va_A (wM cI y a b c9 d v th N n M S C V) sz) := by
  refine Met.ofW (cc := cX1_times) (maxL := 4) (ret := (some .int)) (by decide) rfl ?_
  intro p e s m args below meth c s₁ B hml hv
  obtain ⟨rfl, hsz, hP, hK, hD0⟩ := hv
  have hx := B.exec
  have hb := B.bytes
  have hr := B.returns
  have hts := atoms_spec (ws := wsX1_times) B.pre
  have hown : s.vm.findClass RX1 = some m.cls := findClass_of_methodNamed B.named
  have hlocks := B.notSynchronized
  have hinX1 : ∀ w ∈ u_ws RX1 TX1 7, w ∈ wsX1_times := by decide +kernel
  have hf26 := hts (.fieldLink RX1 26 "GameArbiterModel" "thrown" "I") (by decide +kernel)
  have hf53 := hts (.fieldLink RX1 53 "GameArbiterModel" "many" "I") (by decide +kernel)
  have hl := lv_entry ([.ref y, .int q]) (n := 4) (Nat.le_of_ble_eq_true rfl)
  rw [lg_entry_eq]
  generalize (lg_sl ([.ref y, .int q]) ++ List.replicate (4 - (lg_sl ([.ref y, .int q])).length) Slot.unset).toArray = ls at hl ⊢
  replace hl : lv_has ls 4 [(0, .ref y), (1, .int q)] := hl
  subst hsz
  have hD := hD0.self (sz := s.heap.size)
  generalize hAe : va_A (wM cI y a b c9 d v th N n M S C V) s.heap.size = A at hD ⊢
  have hA : ∀ q : Nat, s.heap.size ≤ q → A q := fun q h => by rw [← hAe]; exact Or.inr h
  have hS : va_S A s.heap s.heap [] := va_S.rf
  replace hP : va_P (dC, dI) vwCl [(y, .inr (1, [.int th, .ref a, .int (nI n), .ref b, .ref c9, .ref d, .ref v])), (a, .inl (cI, 64, .inl N)), (b, .inl (cI, 40960, .inl M)), (c9, .inl (cI, 640, .inl S)), (d, .inl (cI, 640, .inl C)), (v, .inl (cI, 640, .inl V))] s.heap := hP
  replace hD : va_D A [(y, .inr (1, [.int th, .ref a, .int (nI n), .ref b, .ref c9, .ref d, .ref v])), (a, .inl (cI, 64, .inl N)), (b, .inl (cI, 40960, .inl M)), (c9, .inl (cI, 640, .inl S)), (d, .inl (cI, 640, .inl C)), (v, .inl (cI, 640, .inl V))] := hD
  refine lv_aload_n hx hb dX1_times_0 rfl (lv_at hl 0 rfl) ?_
  refine lv_iload_n hx hb dX1_times_1 rfl (lv_at hl 1 rfl) ?_
  refine pu_callS (rest := [.ref y]) ⟨hx, hb, hml, hown, hts⟩ (k_X1_isState l q) (va_cwS 1 hts gX1_times_X1_isState rfl rfl rfl (by decide +kernel) ⟨Nat.le_of_ble_eq_true rfl, Nat.le_of_ble_eq_true rfl⟩) rfl hl.1 rfl (Nat.le_of_ble_eq_true rfl) dX1_times_2 ⟨Nat.zero_le _, Nat.zero_le _⟩ ?_
  refine lv_if_eq (tgt := 12) hx hb dX1_times_5 (by decide) (fun c_1 => ?_) (fun c_1 => ?_)
  · refine lv_iconst (v := nI 1) hx hb dX1_times_12 (by decide) ?_
    refine va_put (D := (dC, dI)) (ci := 1) (v := .int (nI 1)) (ty := .int) (C := RX1) (T := TX1) (N := 7) hx hb hts hinX1 tyX1 tyX1_ok nmX1 hown hK hP hD hS 0 rfl rfl 0 (by decide) hf26 (fun _ h9 => h9) rfl (by decide +kernel) rfl rfl (Nat.le_of_ble_eq_true rfl) dX1_times_13 (fun H locs hP hD hS => ?_)
    replace hP : va_P (dC, dI) vwCl [(y, .inr (1, [.int (nI 1), .ref a, .int (nI n), .ref b, .ref c9, .ref d, .ref v])), (a, .inl (cI, 64, .inl N)), (b, .inl (cI, 40960, .inl M)), (c9, .inl (cI, 640, .inl S)), (d, .inl (cI, 640, .inl C)), (v, .inl (cI, 640, .inl V))] H := hP
    replace hD : va_D A [(y, .inr (1, [.int (nI 1), .ref a, .int (nI n), .ref b, .ref c9, .ref d, .ref v])), (a, .inl (cI, 64, .inl N)), (b, .inl (cI, 40960, .inl M)), (c9, .inl (cI, 640, .inl S)), (d, .inl (cI, 640, .inl C)), (v, .inl (cI, 640, .inl V))] := hD
    have hok : mo_okT q = 1 := by rw [mo_okT, if_pos c_1]
    refine lv_iconst (v := nI 0) hx hb dX1_times_16 (by decide) ?_
    refine lv_istore_n (lv' := [(2, .int (nI 0)), (0, .ref y), (1, .int q)]) hx hb dX1_times_17 rfl hl (by decide) rfl (fun ls hl => ?_)
    refine lv_iconst (v := nI 0) hx hb dX1_times_18 (by decide) ?_
    refine lv_istore_n (lv' := [(3, .int (nI 0)), (2, .int (nI 0)), (0, .ref y), (1, .int q)]) hx hb dX1_times_19 rfl hl (by decide) rfl (fun ls hl => ?_)
    refine lv_iload_n hx hb dX1_times_20 rfl (lv_at hl 0 rfl) ?_
    refine lv_aload_n hx hb dX1_times_21 rfl (lv_at hl 2 rfl) ?_
    refine va_get (D := (dC, dI)) (ci := 1) (v := .int (nI n)) (C := RX1) (T := TX1) (N := 7) hx hb hts hinX1 hown hK hP 0 rfl rfl 2 (by decide) hf53 (fun _ h9 => h9) rfl dX1_times_22 ?_
    refine lv_icmp_ge (tgt := 58) hx hb dX1_times_25 (by decide) (fun c_2 => ?_) (fun c_2 => ?_)
    · have c_2 : n ≤ 0 := (nI_leI (show n < 2 ^ 31 by omega) (show 0 < 2 ^ 31 by omega)).mp c_2
      refine lv_iload_n hx hb dX1_times_58 rfl (lv_at hl 1 rfl) ?_
      exact wr_ret hx hb hr hlocks (by rw [hok]; rfl) (by rw [hok]) hP hK hD hS dX1_times_59
    · have c_2 : ¬ (n ≤ 0) := fun h => c_2 ((nI_leI (show n < 2 ^ 31 by omega) (show 0 < 2 ^ 31 by omega)).mpr h)
      refine lv_aload_n hx hb dX1_times_28 rfl (lv_at hl 2 rfl) ?_
      refine va_get (D := (dC, dI)) (ci := 1) (v := .int (nI 1)) (C := RX1) (T := TX1) (N := 7) hx hb hts hinX1 hown hK hP 0 rfl rfl 0 (by decide) hf26 (fun _ h9 => h9) rfl dX1_times_29 ?_
      refine lv_if_ne (tgt := 58) hx hb dX1_times_32 (by decide) (fun c_3 => ?_) (fun c_3 => ?_)
      · refine lv_iload_n hx hb dX1_times_58 rfl (lv_at hl 1 rfl) ?_
        exact wr_ret hx hb hr hlocks (by rw [hok]; rfl) (by rw [hok]) hP hK hD hS dX1_times_59
      · exact absurd c_3 (by decide)
  · refine lv_iconst (v := nI 0) hx hb dX1_times_8 (by decide) ?_
    refine lv_goto (tgt := 13) hx hb dX1_times_9 (by decide) ?_
    refine va_put (D := (dC, dI)) (ci := 1) (v := .int (nI 0)) (ty := .int) (C := RX1) (T := TX1) (N := 7) hx hb hts hinX1 tyX1 tyX1_ok nmX1 hown hK hP hD hS 0 rfl rfl 0 (by decide) hf26 (fun _ h9 => h9) rfl (by decide +kernel) rfl rfl (Nat.le_of_ble_eq_true rfl) dX1_times_13 (fun H locs hP hD hS => ?_)
    replace hP : va_P (dC, dI) vwCl [(y, .inr (1, [.int (nI 0), .ref a, .int (nI n), .ref b, .ref c9, .ref d, .ref v])), (a, .inl (cI, 64, .inl N)), (b, .inl (cI, 40960, .inl M)), (c9, .inl (cI, 640, .inl S)), (d, .inl (cI, 640, .inl C)), (v, .inl (cI, 640, .inl V))] H := hP
    replace hD : va_D A [(y, .inr (1, [.int (nI 0), .ref a, .int (nI n), .ref b, .ref c9, .ref d, .ref v])), (a, .inl (cI, 64, .inl N)), (b, .inl (cI, 40960, .inl M)), (c9, .inl (cI, 640, .inl S)), (d, .inl (cI, 640, .inl C)), (v, .inl (cI, 640, .inl V))] := hD
    have hok : mo_okT q = 0 := by rw [mo_okT, if_neg c_1]
    refine lv_iconst (v := nI 0) hx hb dX1_times_16 (by decide) ?_
    refine lv_istore_n (lv' := [(2, .int (nI 0)), (0, .ref y), (1, .int q)]) hx hb dX1_times_17 rfl hl (by decide) rfl (fun ls hl => ?_)
    refine lv_iconst (v := nI 0) hx hb dX1_times_18 (by decide) ?_
    refine lv_istore_n (lv' := [(3, .int (nI 0)), (2, .int (nI 0)), (0, .ref y), (1, .int q)]) hx hb dX1_times_19 rfl hl (by decide) rfl (fun ls hl => ?_)
    obtain ⟨i, hi0⟩ : ∃ i : Nat, i = 0 := ⟨0, rfl⟩
    replace hl := lv_sub hl [2, 3, 1, 0] rfl
    replace hl : lv_has ls 4 [(0, .ref y), (1, .int q), (2, .int (nI (mo_tm S M N q i))), (3, .int (nI i))] := by rw [hi0]; exact hl
    have hib : i ≤ n := by omega
    clear hi0
    obtain ⟨zi, hzi⟩ : ∃ z : Nat, n < i + z := ⟨n + 1, by omega⟩
    induction zi generalizing i ls with
    | zero => exact absurd hzi (by omega)
    | succ zi ihi =>
      refine lv_iload_n hx hb dX1_times_20 rfl (lv_at hl 3 rfl) ?_
      refine lv_aload_n hx hb dX1_times_21 rfl (lv_at hl 0 rfl) ?_
      refine va_get (D := (dC, dI)) (ci := 1) (v := .int (nI n)) (C := RX1) (T := TX1) (N := 7) hx hb hts hinX1 hown hK hP 0 rfl rfl 2 (by decide) hf53 (fun _ h9 => h9) rfl dX1_times_22 ?_
      refine lv_icmp_ge (tgt := 58) hx hb dX1_times_25 (by decide) (fun c_4 => ?_) (fun c_4 => ?_)
      · have c_4 : n ≤ i := (nI_leI (show n < 2 ^ 31 by omega) (show i < 2 ^ 31 by omega)).mp c_4
        refine lv_iload_n hx hb dX1_times_58 rfl (lv_at hl 2 rfl) ?_
        exact wr_ret hx hb hr hlocks (by rw [hok, show i = n by omega]; rfl) (by rw [hok]) hP hK hD hS dX1_times_59
      · have c_4 : ¬ (n ≤ i) := fun h => c_4 ((nI_leI (show n < 2 ^ 31 by omega) (show i < 2 ^ 31 by omega)).mpr h)
        refine lv_aload_n hx hb dX1_times_28 rfl (lv_at hl 0 rfl) ?_
        refine va_get (D := (dC, dI)) (ci := 1) (v := .int (nI 0)) (C := RX1) (T := TX1) (N := 7) hx hb hts hinX1 hown hK hP 0 rfl rfl 0 (by decide) hf26 (fun _ h9 => h9) rfl dX1_times_29 ?_
        refine lv_if_ne (tgt := 58) hx hb dX1_times_32 (by decide) (fun c_5 => ?_) (fun c_5 => ?_)
        · exact absurd (by decide) c_5
        · refine lv_iload_n hx hb dX1_times_35 rfl (lv_at hl 2 rfl) ?_
          refine lv_aload_n hx hb dX1_times_36 rfl (lv_at hl 0 rfl) ?_
          refine lv_iload_n hx hb dX1_times_37 rfl (lv_at hl 3 rfl) ?_
          refine lv_iload_n hx hb dX1_times_38 rfl (lv_at hl 1 rfl) ?_
          refine rd_callV (rest := [.int (nI (mo_tm S M N q i))]) ⟨hx, hb, hml, hown, hts⟩ (k_X1_isNext l dC dI cI y a b c9 d v (nI 0) N n M S C V i q (by omega)) (cwV 2 hts gX1_times_X1_isNext rfl rfl rfl (by decide +kernel) ⟨Nat.le_of_ble_eq_true rfl, Nat.le_of_ble_eq_true rfl⟩) hK hP rfl (q0 := 0) rfl rfl hl.1 rfl (Nat.le_of_ble_eq_true rfl) dX1_times_39 ⟨Nat.zero_le _, Nat.zero_le _⟩ ?_
          refine lv_if_eq (tgt := 49) hx hb dX1_times_42 (by decide) (fun c_6 => ?_) (fun c_6 => ?_)
          · refine lv_iconst (v := nI 0) hx hb dX1_times_49 (by decide) ?_
            refine lv_iadd hx hb dX1_times_50 ?_
            refine lv_is (nI_add _ _) ?_
            refine lv_istore_n (lv' := [(2, .int (nI ((mo_tm S M N q i) + 0))), (0, .ref y), (1, .int q), (3, .int (nI i))]) hx hb dX1_times_51 rfl hl (by decide) rfl (fun ls hl => ?_)
            refine lv_iinc (v := nI (i + 1)) (lv' := [(3, .int (nI (i + 1))), (2, .int (nI ((mo_tm S M N q i) + 0))), (0, .ref y), (1, .int q)]) hx hb dX1_times_52 hl (k := 3) rfl (nI_1 _) (by decide) rfl (fun ls hl => ?_)
            refine lv_goto (tgt := 20) hx hb dX1_times_55 (by decide) ?_
            have e1 : (mo_tm S M N q i) + 0 = mo_tm S M N q (i + 1) := by rw [mo_tm, if_pos c_6]
            rw [e1] at hl
            exact ihi _ _ (lv_sub hl [2, 3, 1, 0] rfl) (by omega) (by omega)
          · refine lv_iconst (v := nI 1) hx hb dX1_times_45 (by decide) ?_
            refine lv_goto (tgt := 50) hx hb dX1_times_46 (by decide) ?_
            refine lv_iadd hx hb dX1_times_50 ?_
            refine lv_is (nI_add _ _) ?_
            refine lv_istore_n (lv' := [(2, .int (nI ((mo_tm S M N q i) + 1))), (0, .ref y), (1, .int q), (3, .int (nI i))]) hx hb dX1_times_51 rfl hl (by decide) rfl (fun ls hl => ?_)
            refine lv_iinc (v := nI (i + 1)) (lv' := [(3, .int (nI (i + 1))), (2, .int (nI ((mo_tm S M N q i) + 1))), (0, .ref y), (1, .int q)]) hx hb dX1_times_52 hl (k := 3) rfl (nI_1 _) (by decide) rfl (fun ls hl => ?_)
            refine lv_goto (tgt := 20) hx hb dX1_times_55 (by decide) ?_
            have e1 : (mo_tm S M N q i) + 1 = mo_tm S M N q (i + 1) := by rw [mo_tm, if_neg c_6]
            rw [e1] at hl
            exact ihi _ _ (lv_sub hl [2, 3, 1, 0] rfl) (by omega) (by omega)
set_option maxHeartbeats 4000000 in
set_option maxRecDepth 100000 in
theorem k_X1_look (l : Launch) (dC : Nat → ClassId) (dI : Nat → Nat → Nat) (cI : ClassId) (y a b c9 d v : Nat) (th : Int32) (N : Nat → Int32) (n : Nat) (M S C V : Nat → Int32) (q : Int32) (sz : Nat) (hn : n ≤ 640) : Met l yX1_look wsX1_look ({ frames := 2, cells := 0, slots := 0, locals := 47 } : Room) (wr (dC, dI) (wM cI y a b c9 d v th N n M S C V) (tM cI) sz [.ref y, .int q]) (wrQ (dC, dI) (wM cI y a b c9 d v (nI 0) N n M S C V) (tM cI) (va_A (wM cI y a b c9 d v th N n M S C V) sz) (fun r => r = mo_look S M C n q)) 0 0 (va_A (wM cI y a b c9 d v th N n M S C V) sz) := by
  refine Met.ofW (cc := cX1_look) (maxL := 7) (ret := (some .int)) (by decide) rfl ?_
  intro p e s m args below meth c s₁ B hml hv
  obtain ⟨rfl, hsz, hP, hK, hD0⟩ := hv
  have hx := B.exec
  have hb := B.bytes
  have hr := B.returns
  have hts := atoms_spec (ws := wsX1_look) B.pre
  have hown : s.vm.findClass RX1 = some m.cls := findClass_of_methodNamed B.named
  have hlocks := B.notSynchronized
  have hinX1 : ∀ w ∈ u_ws RX1 TX1 7, w ∈ wsX1_look := by decide +kernel
  have hf20 := hts (.fieldLink RX1 20 "GameArbiterModel" "clocks" "[I") (by decide +kernel)
  have hf26 := hts (.fieldLink RX1 26 "GameArbiterModel" "thrown" "I") (by decide +kernel)
  have hf53 := hts (.fieldLink RX1 53 "GameArbiterModel" "many" "I") (by decide +kernel)
  have hl := lv_entry ([.ref y, .int q]) (n := 7) (Nat.le_of_ble_eq_true rfl)
  rw [lg_entry_eq]
  generalize (lg_sl ([.ref y, .int q]) ++ List.replicate (7 - (lg_sl ([.ref y, .int q])).length) Slot.unset).toArray = ls at hl ⊢
  replace hl : lv_has ls 7 [(0, .ref y), (1, .int q)] := hl
  subst hsz
  have hD := hD0.self (sz := s.heap.size)
  generalize hAe : va_A (wM cI y a b c9 d v th N n M S C V) s.heap.size = A at hD ⊢
  have hA : ∀ q : Nat, s.heap.size ≤ q → A q := fun q h => by rw [← hAe]; exact Or.inr h
  have hS : va_S A s.heap s.heap [] := va_S.rf
  replace hP : va_P (dC, dI) vwCl [(y, .inr (1, [.int th, .ref a, .int (nI n), .ref b, .ref c9, .ref d, .ref v])), (a, .inl (cI, 64, .inl N)), (b, .inl (cI, 40960, .inl M)), (c9, .inl (cI, 640, .inl S)), (d, .inl (cI, 640, .inl C)), (v, .inl (cI, 640, .inl V))] s.heap := hP
  replace hD : va_D A [(y, .inr (1, [.int th, .ref a, .int (nI n), .ref b, .ref c9, .ref d, .ref v])), (a, .inl (cI, 64, .inl N)), (b, .inl (cI, 40960, .inl M)), (c9, .inl (cI, 640, .inl S)), (d, .inl (cI, 640, .inl C)), (v, .inl (cI, 640, .inl V))] := hD
  refine lv_aload_n hx hb dX1_look_0 rfl (lv_at hl 0 rfl) ?_
  refine lv_iconst (v := nI 0) hx hb dX1_look_1 (by decide) ?_
  refine va_put (D := (dC, dI)) (ci := 1) (v := .int (nI 0)) (ty := .int) (C := RX1) (T := TX1) (N := 7) hx hb hts hinX1 tyX1 tyX1_ok nmX1 hown hK hP hD hS 0 rfl rfl 0 (by decide) hf26 (fun _ h9 => h9) rfl (by decide +kernel) rfl rfl (Nat.le_of_ble_eq_true rfl) dX1_look_2 (fun H locs hP hD hS => ?_)
  replace hP : va_P (dC, dI) vwCl [(y, .inr (1, [.int (nI 0), .ref a, .int (nI n), .ref b, .ref c9, .ref d, .ref v])), (a, .inl (cI, 64, .inl N)), (b, .inl (cI, 40960, .inl M)), (c9, .inl (cI, 640, .inl S)), (d, .inl (cI, 640, .inl C)), (v, .inl (cI, 640, .inl V))] H := hP
  replace hD : va_D A [(y, .inr (1, [.int (nI 0), .ref a, .int (nI n), .ref b, .ref c9, .ref d, .ref v])), (a, .inl (cI, 64, .inl N)), (b, .inl (cI, 40960, .inl M)), (c9, .inl (cI, 640, .inl S)), (d, .inl (cI, 640, .inl C)), (v, .inl (cI, 640, .inl V))] := hD
  refine lv_iconst (v := nI 0) hx hb dX1_look_5 (by decide) ?_
  refine lv_istore_n (lv' := [(2, .int (nI 0)), (0, .ref y), (1, .int q)]) hx hb dX1_look_6 rfl hl (by decide) rfl (fun ls hl => ?_)
  refine lv_iconst (v := nI 0) hx hb dX1_look_7 (by decide) ?_
  refine lv_istore_n (lv' := [(3, .int (nI 0)), (2, .int (nI 0)), (0, .ref y), (1, .int q)]) hx hb dX1_look_8 rfl hl (by decide) rfl (fun ls hl => ?_)
  refine lv_iconst (v := nI 0) hx hb dX1_look_9 (by decide) ?_
  refine lv_istore (lv' := [(4, .int (nI 0)), (3, .int (nI 0)), (2, .int (nI 0)), (0, .ref y), (1, .int q)]) hx hb dX1_look_10 hl (by decide) rfl (fun ls hl => ?_)
  refine lv_iconst (v := nI 0) hx hb dX1_look_12 (by decide) ?_
  refine lv_istore (lv' := [(5, .int (nI 0)), (4, .int (nI 0)), (3, .int (nI 0)), (2, .int (nI 0)), (0, .ref y), (1, .int q)]) hx hb dX1_look_13 hl (by decide) rfl (fun ls hl => ?_)
  obtain ⟨i, hi0⟩ : ∃ i : Nat, i = 0 := ⟨0, rfl⟩
  replace hl := lv_sub hl [4, 5, 3, 2, 1, 0] rfl
  replace hl : lv_has ls 7 [(0, .ref y), (1, .int q), (2, .int (nI (mo_df S M i))), (3, .int (nI (mo_gc S M i))), (4, .int (mo_gl C i)), (5, .int (nI i))] := by rw [hi0]; exact hl
  have hib : i ≤ n := by omega
  clear hi0
  obtain ⟨zi, hzi⟩ : ∃ z : Nat, n < i + z := ⟨n + 1, by omega⟩
  induction zi generalizing i ls with
  | zero => exact absurd hzi (by omega)
  | succ zi ihi =>
    refine lv_iload hx hb dX1_look_15 (lv_at hl 5 rfl) ?_
    refine lv_aload_n hx hb dX1_look_17 rfl (lv_at hl 0 rfl) ?_
    refine va_get (D := (dC, dI)) (ci := 1) (v := .int (nI n)) (C := RX1) (T := TX1) (N := 7) hx hb hts hinX1 hown hK hP 0 rfl rfl 2 (by decide) hf53 (fun _ h9 => h9) rfl dX1_look_18 ?_
    refine lv_icmp_ge (tgt := 100) hx hb dX1_look_21 (by decide) (fun c_1 => ?_) (fun c_1 => ?_)
    · have c_1 : n ≤ i := (nI_leI (show n < 2 ^ 31 by omega) (show i < 2 ^ 31 by omega)).mp c_1
      refine lv_iload_n hx hb dX1_look_100 rfl (lv_at hl 1 rfl) ?_
      refine lv_if_ne (tgt := 111) hx hb dX1_look_101 (by decide) (fun c_2 => ?_) (fun c_2 => ?_)
      · refine lv_iload_n hx hb dX1_look_111 rfl (lv_at hl 1 rfl) ?_
        refine lv_iconst (v := nI 1) hx hb dX1_look_112 (by decide) ?_
        refine lv_icmp_ne (tgt := 120) hx hb dX1_look_113 (by decide) (fun c_3 => ?_) (fun c_3 => ?_)
        · refine lv_iload_n hx hb dX1_look_120 rfl (lv_at hl 1 rfl) ?_
          refine lv_iconst (v := nI 2) hx hb dX1_look_121 (by decide) ?_
          refine lv_icmp_ne (tgt := 129) hx hb dX1_look_122 (by decide) (fun c_4 => ?_) (fun c_4 => ?_)
          · refine lv_iload_n hx hb dX1_look_129 rfl (lv_at hl 1 rfl) ?_
            refine lv_iconst (v := nI 3) hx hb dX1_look_130 (by decide) ?_
            refine lv_icmp_ne (tgt := 139) hx hb dX1_look_131 (by decide) (fun c_5 => ?_) (fun c_5 => ?_)
            · refine lv_iconst (v := (-1)) hx hb dX1_look_139 (by decide) ?_
              exact wr_ret hx hb hr hlocks (by rw [mo_look, if_neg c_2, if_neg c_3, if_neg c_4, if_neg c_5]) (rfl) hP hK hD hS dX1_look_140
            · refine lv_iload hx hb dX1_look_134 (lv_at hl 4 rfl) ?_
              refine lv_goto (tgt := 140) hx hb dX1_look_136 (by decide) ?_
              exact wr_ret hx hb hr hlocks (by rw [mo_look, if_neg c_2, if_neg c_3, if_neg c_4, if_pos c_5]; rw [show i = n by omega]) (rfl) hP hK hD hS dX1_look_140
          · refine lv_iload_n hx hb dX1_look_125 rfl (lv_at hl 3 rfl) ?_
            refine lv_goto (tgt := 140) hx hb dX1_look_126 (by decide) ?_
            exact wr_ret hx hb hr hlocks (by rw [mo_look, if_neg c_2, if_neg c_3, if_pos c_4]; rw [show i = n by omega]) (rfl) hP hK hD hS dX1_look_140
        · refine lv_iload_n hx hb dX1_look_116 rfl (lv_at hl 2 rfl) ?_
          refine lv_goto (tgt := 140) hx hb dX1_look_117 (by decide) ?_
          exact wr_ret hx hb hr hlocks (by rw [mo_look, if_neg c_2, if_pos c_3]; rw [show i = n by omega]) (rfl) hP hK hD hS dX1_look_140
      · refine lv_aload_n hx hb dX1_look_104 rfl (lv_at hl 0 rfl) ?_
        refine va_get (D := (dC, dI)) (ci := 1) (v := .int (nI n)) (C := RX1) (T := TX1) (N := 7) hx hb hts hinX1 hown hK hP 0 rfl rfl 2 (by decide) hf53 (fun _ h9 => h9) rfl dX1_look_105 ?_
        refine lv_goto (tgt := 140) hx hb dX1_look_108 (by decide) ?_
        exact wr_ret hx hb hr hlocks (by rw [mo_look, if_pos c_2]) (rfl) hP hK hD hS dX1_look_140
    · have c_1 : ¬ (n ≤ i) := fun h => c_1 ((nI_leI (show n < 2 ^ 31 by omega) (show i < 2 ^ 31 by omega)).mpr h)
      refine lv_iload_n hx hb dX1_look_24 rfl (lv_at hl 1 rfl) ?_
      refine lv_if_le (tgt := 100) hx hb dX1_look_25 (by decide) (fun c_6 => ?_) (fun c_6 => ?_)
      · refine lv_iload_n hx hb dX1_look_100 rfl (lv_at hl 1 rfl) ?_
        refine lv_if_ne (tgt := 111) hx hb dX1_look_101 (by decide) (fun c_7 => ?_) (fun c_7 => ?_)
        · refine lv_iload_n hx hb dX1_look_111 rfl (lv_at hl 1 rfl) ?_
          refine lv_iconst (v := nI 1) hx hb dX1_look_112 (by decide) ?_
          refine lv_icmp_ne (tgt := 120) hx hb dX1_look_113 (by decide) (fun c_8 => ?_) (fun c_8 => ?_)
          · refine lv_iload_n hx hb dX1_look_120 rfl (lv_at hl 1 rfl) ?_
            refine lv_iconst (v := nI 2) hx hb dX1_look_121 (by decide) ?_
            refine lv_icmp_ne (tgt := 129) hx hb dX1_look_122 (by decide) (fun c_9 => ?_) (fun c_9 => ?_)
            · refine lv_iload_n hx hb dX1_look_129 rfl (lv_at hl 1 rfl) ?_
              refine lv_iconst (v := nI 3) hx hb dX1_look_130 (by decide) ?_
              refine lv_icmp_ne (tgt := 139) hx hb dX1_look_131 (by decide) (fun c_10 => ?_) (fun c_10 => ?_)
              · refine lv_iconst (v := (-1)) hx hb dX1_look_139 (by decide) ?_
                exact wr_ret hx hb hr hlocks (by rw [mo_look, if_neg c_7, if_neg c_8, if_neg c_9, if_neg c_10]) (rfl) hP hK hD hS dX1_look_140
              · refine lv_iload hx hb dX1_look_134 (lv_at hl 4 rfl) ?_
                refine lv_goto (tgt := 140) hx hb dX1_look_136 (by decide) ?_
                exact wr_ret hx hb hr hlocks (by rw [c_10] at c_6; exact absurd c_6 (by decide)) (rfl) hP hK hD hS dX1_look_140
            · refine lv_iload_n hx hb dX1_look_125 rfl (lv_at hl 3 rfl) ?_
              refine lv_goto (tgt := 140) hx hb dX1_look_126 (by decide) ?_
              exact wr_ret hx hb hr hlocks (by rw [c_9] at c_6; exact absurd c_6 (by decide)) (rfl) hP hK hD hS dX1_look_140
          · refine lv_iload_n hx hb dX1_look_116 rfl (lv_at hl 2 rfl) ?_
            refine lv_goto (tgt := 140) hx hb dX1_look_117 (by decide) ?_
            exact wr_ret hx hb hr hlocks (by rw [c_8] at c_6; exact absurd c_6 (by decide)) (rfl) hP hK hD hS dX1_look_140
        · refine lv_aload_n hx hb dX1_look_104 rfl (lv_at hl 0 rfl) ?_
          refine va_get (D := (dC, dI)) (ci := 1) (v := .int (nI n)) (C := RX1) (T := TX1) (N := 7) hx hb hts hinX1 hown hK hP 0 rfl rfl 2 (by decide) hf53 (fun _ h9 => h9) rfl dX1_look_105 ?_
          refine lv_goto (tgt := 140) hx hb dX1_look_108 (by decide) ?_
          exact wr_ret hx hb hr hlocks (by rw [mo_look, if_pos c_7]) (rfl) hP hK hD hS dX1_look_140
      · refine lv_iload_n hx hb dX1_look_28 rfl (lv_at hl 1 rfl) ?_
        refine lv_iconst (v := nI 4) hx hb dX1_look_29 (by decide) ?_
        refine lv_icmp_ge (tgt := 100) hx hb dX1_look_30 (by decide) (fun c_11 => ?_) (fun c_11 => ?_)
        · refine lv_iload_n hx hb dX1_look_100 rfl (lv_at hl 1 rfl) ?_
          refine lv_if_ne (tgt := 111) hx hb dX1_look_101 (by decide) (fun c_12 => ?_) (fun c_12 => ?_)
          · refine lv_iload_n hx hb dX1_look_111 rfl (lv_at hl 1 rfl) ?_
            refine lv_iconst (v := nI 1) hx hb dX1_look_112 (by decide) ?_
            refine lv_icmp_ne (tgt := 120) hx hb dX1_look_113 (by decide) (fun c_13 => ?_) (fun c_13 => ?_)
            · refine lv_iload_n hx hb dX1_look_120 rfl (lv_at hl 1 rfl) ?_
              refine lv_iconst (v := nI 2) hx hb dX1_look_121 (by decide) ?_
              refine lv_icmp_ne (tgt := 129) hx hb dX1_look_122 (by decide) (fun c_14 => ?_) (fun c_14 => ?_)
              · refine lv_iload_n hx hb dX1_look_129 rfl (lv_at hl 1 rfl) ?_
                refine lv_iconst (v := nI 3) hx hb dX1_look_130 (by decide) ?_
                refine lv_icmp_ne (tgt := 139) hx hb dX1_look_131 (by decide) (fun c_15 => ?_) (fun c_15 => ?_)
                · refine lv_iconst (v := (-1)) hx hb dX1_look_139 (by decide) ?_
                  exact wr_ret hx hb hr hlocks (by rw [mo_look, if_neg c_12, if_neg c_13, if_neg c_14, if_neg c_15]) (rfl) hP hK hD hS dX1_look_140
                · refine lv_iload hx hb dX1_look_134 (lv_at hl 4 rfl) ?_
                  refine lv_goto (tgt := 140) hx hb dX1_look_136 (by decide) ?_
                  exact wr_ret hx hb hr hlocks (by rw [c_15] at c_11; exact absurd c_11 (by decide)) (rfl) hP hK hD hS dX1_look_140
              · refine lv_iload_n hx hb dX1_look_125 rfl (lv_at hl 3 rfl) ?_
                refine lv_goto (tgt := 140) hx hb dX1_look_126 (by decide) ?_
                exact wr_ret hx hb hr hlocks (by rw [c_14] at c_11; exact absurd c_11 (by decide)) (rfl) hP hK hD hS dX1_look_140
            · refine lv_iload_n hx hb dX1_look_116 rfl (lv_at hl 2 rfl) ?_
              refine lv_goto (tgt := 140) hx hb dX1_look_117 (by decide) ?_
              exact wr_ret hx hb hr hlocks (by rw [c_13] at c_11; exact absurd c_11 (by decide)) (rfl) hP hK hD hS dX1_look_140
          · refine lv_aload_n hx hb dX1_look_104 rfl (lv_at hl 0 rfl) ?_
            refine va_get (D := (dC, dI)) (ci := 1) (v := .int (nI n)) (C := RX1) (T := TX1) (N := 7) hx hb hts hinX1 hown hK hP 0 rfl rfl 2 (by decide) hf53 (fun _ h9 => h9) rfl dX1_look_105 ?_
            refine lv_goto (tgt := 140) hx hb dX1_look_108 (by decide) ?_
            exact wr_ret hx hb hr hlocks (by rw [mo_look, if_pos c_12]) (rfl) hP hK hD hS dX1_look_140
        · have hgc := mo_gc_le S M i
          have hdf := mo_df_le S M i
          refine lv_aload_n hx hb dX1_look_33 rfl (lv_at hl 0 rfl) ?_
          refine lv_iload hx hb dX1_look_34 (lv_at hl 5 rfl) ?_
          have hcn := mo_cnt_le S M i (i + 1)
          refine rd_callV (rest := []) ⟨hx, hb, hml, hown, hts⟩ (k_X1_countOf l dC dI cI y a b c9 d v (nI 0) N n M S C V i (by omega)) (cwV 1 hts gX1_look_X1_countOf rfl rfl rfl (by decide +kernel) ⟨Nat.le_of_ble_eq_true rfl, Nat.le_of_ble_eq_true rfl⟩) hK hP rfl (q0 := 0) rfl rfl hl.1 rfl (Nat.le_of_ble_eq_true rfl) dX1_look_36 ⟨Nat.zero_le _, Nat.zero_le _⟩ ?_
          refine lv_istore (lv' := [(6, .int (nI (mo_cnt S M i (i + 1)))), (0, .ref y), (1, .int q), (2, .int (nI (mo_df S M i))), (3, .int (nI (mo_gc S M i))), (4, .int (mo_gl C i)), (5, .int (nI i))]) hx hb dX1_look_39 hl (by decide) rfl (fun ls hl => ?_)
          refine lv_iload_n hx hb dX1_look_41 rfl (lv_at hl 3 rfl) ?_
          refine lv_iload hx hb dX1_look_42 (lv_at hl 0 rfl) ?_
          refine lv_iconst (v := nI 1) hx hb dX1_look_44 (by decide) ?_
          refine lv_icmp_ne (tgt := 52) hx hb dX1_look_45 (by decide) (fun c_16 => ?_) (fun c_16 => ?_)
          · have c_16 : ¬ ((mo_cnt S M i (i + 1)) = 1) := fun h => c_16 ((nI_eq (show mo_cnt S M i (i + 1) < 2 ^ 31 by omega) (show 1 < 2 ^ 31 by omega)).mpr h)
            refine lv_iconst (v := nI 0) hx hb dX1_look_52 (by decide) ?_
            refine lv_iadd hx hb dX1_look_53 ?_
            refine lv_is (nI_add _ _) ?_
            refine lv_istore_n (lv' := [(2, .int (nI ((mo_df S M i) + 0))), (6, .int (nI (mo_cnt S M i (i + 1)))), (0, .ref y), (1, .int q), (3, .int (nI (mo_gc S M i))), (4, .int (mo_gl C i)), (5, .int (nI i))]) hx hb dX1_look_54 rfl hl (by decide) rfl (fun ls hl => ?_)
            refine lv_iload hx hb dX1_look_55 (lv_at hl 1 rfl) ?_
            refine lv_iload_n hx hb dX1_look_57 rfl (lv_at hl 4 rfl) ?_
            refine lv_icmp_le (tgt := 66) hx hb dX1_look_58 (by decide) (fun c_17 => ?_) (fun c_17 => ?_)
            · have c_17 : (mo_cnt S M i (i + 1)) ≤ (mo_gc S M i) := (nI_leI (show mo_cnt S M i (i + 1) < 2 ^ 31 by omega) (show mo_gc S M i < 2 ^ 31 by omega)).mp c_17
              refine lv_iload_n hx hb dX1_look_66 rfl (lv_at hl 4 rfl) ?_
              refine lv_istore_n (lv' := [(3, .int (nI (mo_gc S M i))), (2, .int (nI ((mo_df S M i) + 0))), (6, .int (nI (mo_cnt S M i (i + 1)))), (0, .ref y), (1, .int q), (4, .int (mo_gl C i)), (5, .int (nI i))]) hx hb dX1_look_67 rfl hl (by decide) rfl (fun ls hl => ?_)
              refine lv_aload_n hx hb dX1_look_68 rfl (lv_at hl 3 rfl) ?_
              refine va_get (D := (dC, dI)) (ci := 1) (v := .ref d) (C := RX1) (T := TX1) (N := 7) hx hb hts hinX1 hown hK hP 0 rfl rfl 5 (by decide) hf20 (fun _ h9 => h9) rfl dX1_look_69 ?_
              refine lv_iload hx hb dX1_look_72 (lv_at hl 6 rfl) ?_
              refine ix_iald hx hb hK hP 4 0 rfl rfl (show i < 640 by omega) (by decide) dX1_look_74 ?_
              refine lv_iload hx hb dX1_look_75 (lv_at hl 5 rfl) ?_
              refine lv_icmp_le (tgt := 90) hx hb dX1_look_77 (by decide) (fun c_18 => ?_) (fun c_18 => ?_)
              · refine lv_iload hx hb dX1_look_90 (lv_at hl 5 rfl) ?_
                refine lv_istore (lv' := [(4, .int (mo_gl C i)), (3, .int (nI (mo_gc S M i))), (2, .int (nI ((mo_df S M i) + 0))), (6, .int (nI (mo_cnt S M i (i + 1)))), (0, .ref y), (1, .int q), (5, .int (nI i))]) hx hb dX1_look_92 hl (by decide) rfl (fun ls hl => ?_)
                refine lv_iinc (v := nI (i + 1)) (lv' := [(5, .int (nI (i + 1))), (4, .int (mo_gl C i)), (3, .int (nI (mo_gc S M i))), (2, .int (nI ((mo_df S M i) + 0))), (6, .int (nI (mo_cnt S M i (i + 1)))), (0, .ref y), (1, .int q)]) hx hb dX1_look_94 hl (k := 6) rfl (nI_1 _) (by decide) rfl (fun ls hl => ?_)
                refine lv_goto (tgt := 15) hx hb dX1_look_97 (by decide) ?_
                have e1 : (mo_df S M i) + 0 = mo_df S M (i + 1) := by rw [mo_df, if_neg c_16]
                have e2 : mo_gc S M i = mo_gc S M (i + 1) := by rw [mo_gc, if_pos c_17]
                have e3 : mo_gl C i = mo_gl C (i + 1) := by rw [mo_gl, if_pos c_18]
                rw [e1, e2, e3] at hl
                exact ihi _ _ (lv_sub hl [5, 6, 3, 2, 1, 0] rfl) (by omega) (by omega)
              · refine lv_aload_n hx hb dX1_look_80 rfl (lv_at hl 3 rfl) ?_
                refine va_get (D := (dC, dI)) (ci := 1) (v := .ref d) (C := RX1) (T := TX1) (N := 7) hx hb hts hinX1 hown hK hP 0 rfl rfl 5 (by decide) hf20 (fun _ h9 => h9) rfl dX1_look_81 ?_
                refine lv_iload hx hb dX1_look_84 (lv_at hl 6 rfl) ?_
                refine ix_iald hx hb hK hP 4 0 rfl rfl (show i < 640 by omega) (by decide) dX1_look_86 ?_
                refine lv_goto (tgt := 92) hx hb dX1_look_87 (by decide) ?_
                refine lv_istore (lv' := [(4, .int (C i)), (3, .int (nI (mo_gc S M i))), (2, .int (nI ((mo_df S M i) + 0))), (6, .int (nI (mo_cnt S M i (i + 1)))), (0, .ref y), (1, .int q), (5, .int (nI i))]) hx hb dX1_look_92 hl (by decide) rfl (fun ls hl => ?_)
                refine lv_iinc (v := nI (i + 1)) (lv' := [(5, .int (nI (i + 1))), (4, .int (C i)), (3, .int (nI (mo_gc S M i))), (2, .int (nI ((mo_df S M i) + 0))), (6, .int (nI (mo_cnt S M i (i + 1)))), (0, .ref y), (1, .int q)]) hx hb dX1_look_94 hl (k := 6) rfl (nI_1 _) (by decide) rfl (fun ls hl => ?_)
                refine lv_goto (tgt := 15) hx hb dX1_look_97 (by decide) ?_
                have e1 : (mo_df S M i) + 0 = mo_df S M (i + 1) := by rw [mo_df, if_neg c_16]
                have e2 : mo_gc S M i = mo_gc S M (i + 1) := by rw [mo_gc, if_pos c_17]
                have e3 : C i = mo_gl C (i + 1) := by rw [mo_gl, if_neg c_18]
                rw [e1, e2, e3] at hl
                exact ihi _ _ (lv_sub hl [5, 6, 3, 2, 1, 0] rfl) (by omega) (by omega)
            · have c_17 : ¬ ((mo_cnt S M i (i + 1)) ≤ (mo_gc S M i)) := fun h => c_17 ((nI_leI (show mo_cnt S M i (i + 1) < 2 ^ 31 by omega) (show mo_gc S M i < 2 ^ 31 by omega)).mpr h)
              refine lv_iload hx hb dX1_look_61 (lv_at hl 1 rfl) ?_
              refine lv_goto (tgt := 67) hx hb dX1_look_63 (by decide) ?_
              refine lv_istore_n (lv' := [(3, .int (nI (mo_cnt S M i (i + 1)))), (2, .int (nI ((mo_df S M i) + 0))), (6, .int (nI (mo_cnt S M i (i + 1)))), (0, .ref y), (1, .int q), (4, .int (mo_gl C i)), (5, .int (nI i))]) hx hb dX1_look_67 rfl hl (by decide) rfl (fun ls hl => ?_)
              refine lv_aload_n hx hb dX1_look_68 rfl (lv_at hl 3 rfl) ?_
              refine va_get (D := (dC, dI)) (ci := 1) (v := .ref d) (C := RX1) (T := TX1) (N := 7) hx hb hts hinX1 hown hK hP 0 rfl rfl 5 (by decide) hf20 (fun _ h9 => h9) rfl dX1_look_69 ?_
              refine lv_iload hx hb dX1_look_72 (lv_at hl 6 rfl) ?_
              refine ix_iald hx hb hK hP 4 0 rfl rfl (show i < 640 by omega) (by decide) dX1_look_74 ?_
              refine lv_iload hx hb dX1_look_75 (lv_at hl 5 rfl) ?_
              refine lv_icmp_le (tgt := 90) hx hb dX1_look_77 (by decide) (fun c_19 => ?_) (fun c_19 => ?_)
              · refine lv_iload hx hb dX1_look_90 (lv_at hl 5 rfl) ?_
                refine lv_istore (lv' := [(4, .int (mo_gl C i)), (3, .int (nI (mo_cnt S M i (i + 1)))), (2, .int (nI ((mo_df S M i) + 0))), (6, .int (nI (mo_cnt S M i (i + 1)))), (0, .ref y), (1, .int q), (5, .int (nI i))]) hx hb dX1_look_92 hl (by decide) rfl (fun ls hl => ?_)
                refine lv_iinc (v := nI (i + 1)) (lv' := [(5, .int (nI (i + 1))), (4, .int (mo_gl C i)), (3, .int (nI (mo_cnt S M i (i + 1)))), (2, .int (nI ((mo_df S M i) + 0))), (6, .int (nI (mo_cnt S M i (i + 1)))), (0, .ref y), (1, .int q)]) hx hb dX1_look_94 hl (k := 6) rfl (nI_1 _) (by decide) rfl (fun ls hl => ?_)
                refine lv_goto (tgt := 15) hx hb dX1_look_97 (by decide) ?_
                have e1 : (mo_df S M i) + 0 = mo_df S M (i + 1) := by rw [mo_df, if_neg c_16]
                have e2 : mo_cnt S M i (i + 1) = mo_gc S M (i + 1) := by rw [mo_gc, if_neg c_17]
                have e3 : mo_gl C i = mo_gl C (i + 1) := by rw [mo_gl, if_pos c_19]
                rw [e1, e2, e3] at hl
                exact ihi _ _ (lv_sub hl [5, 6, 3, 2, 1, 0] rfl) (by omega) (by omega)
              · refine lv_aload_n hx hb dX1_look_80 rfl (lv_at hl 3 rfl) ?_
                refine va_get (D := (dC, dI)) (ci := 1) (v := .ref d) (C := RX1) (T := TX1) (N := 7) hx hb hts hinX1 hown hK hP 0 rfl rfl 5 (by decide) hf20 (fun _ h9 => h9) rfl dX1_look_81 ?_
                refine lv_iload hx hb dX1_look_84 (lv_at hl 6 rfl) ?_
                refine ix_iald hx hb hK hP 4 0 rfl rfl (show i < 640 by omega) (by decide) dX1_look_86 ?_
                refine lv_goto (tgt := 92) hx hb dX1_look_87 (by decide) ?_
                refine lv_istore (lv' := [(4, .int (C i)), (3, .int (nI (mo_cnt S M i (i + 1)))), (2, .int (nI ((mo_df S M i) + 0))), (6, .int (nI (mo_cnt S M i (i + 1)))), (0, .ref y), (1, .int q), (5, .int (nI i))]) hx hb dX1_look_92 hl (by decide) rfl (fun ls hl => ?_)
                refine lv_iinc (v := nI (i + 1)) (lv' := [(5, .int (nI (i + 1))), (4, .int (C i)), (3, .int (nI (mo_cnt S M i (i + 1)))), (2, .int (nI ((mo_df S M i) + 0))), (6, .int (nI (mo_cnt S M i (i + 1)))), (0, .ref y), (1, .int q)]) hx hb dX1_look_94 hl (k := 6) rfl (nI_1 _) (by decide) rfl (fun ls hl => ?_)
                refine lv_goto (tgt := 15) hx hb dX1_look_97 (by decide) ?_
                have e1 : (mo_df S M i) + 0 = mo_df S M (i + 1) := by rw [mo_df, if_neg c_16]
                have e2 : mo_cnt S M i (i + 1) = mo_gc S M (i + 1) := by rw [mo_gc, if_neg c_17]
                have e3 : C i = mo_gl C (i + 1) := by rw [mo_gl, if_neg c_19]
                rw [e1, e2, e3] at hl
                exact ihi _ _ (lv_sub hl [5, 6, 3, 2, 1, 0] rfl) (by omega) (by omega)
          · have c_16 : (mo_cnt S M i (i + 1)) = 1 := (nI_eq (show mo_cnt S M i (i + 1) < 2 ^ 31 by omega) (show 1 < 2 ^ 31 by omega)).mp c_16
            refine lv_iconst (v := nI 1) hx hb dX1_look_48 (by decide) ?_
            refine lv_goto (tgt := 53) hx hb dX1_look_49 (by decide) ?_
            refine lv_iadd hx hb dX1_look_53 ?_
            refine lv_is (nI_add _ _) ?_
            refine lv_istore_n (lv' := [(2, .int (nI ((mo_df S M i) + 1))), (6, .int (nI (mo_cnt S M i (i + 1)))), (0, .ref y), (1, .int q), (3, .int (nI (mo_gc S M i))), (4, .int (mo_gl C i)), (5, .int (nI i))]) hx hb dX1_look_54 rfl hl (by decide) rfl (fun ls hl => ?_)
            refine lv_iload hx hb dX1_look_55 (lv_at hl 1 rfl) ?_
            refine lv_iload_n hx hb dX1_look_57 rfl (lv_at hl 4 rfl) ?_
            refine lv_icmp_le (tgt := 66) hx hb dX1_look_58 (by decide) (fun c_20 => ?_) (fun c_20 => ?_)
            · have c_20 : (mo_cnt S M i (i + 1)) ≤ (mo_gc S M i) := (nI_leI (show mo_cnt S M i (i + 1) < 2 ^ 31 by omega) (show mo_gc S M i < 2 ^ 31 by omega)).mp c_20
              refine lv_iload_n hx hb dX1_look_66 rfl (lv_at hl 4 rfl) ?_
              refine lv_istore_n (lv' := [(3, .int (nI (mo_gc S M i))), (2, .int (nI ((mo_df S M i) + 1))), (6, .int (nI (mo_cnt S M i (i + 1)))), (0, .ref y), (1, .int q), (4, .int (mo_gl C i)), (5, .int (nI i))]) hx hb dX1_look_67 rfl hl (by decide) rfl (fun ls hl => ?_)
              refine lv_aload_n hx hb dX1_look_68 rfl (lv_at hl 3 rfl) ?_
              refine va_get (D := (dC, dI)) (ci := 1) (v := .ref d) (C := RX1) (T := TX1) (N := 7) hx hb hts hinX1 hown hK hP 0 rfl rfl 5 (by decide) hf20 (fun _ h9 => h9) rfl dX1_look_69 ?_
              refine lv_iload hx hb dX1_look_72 (lv_at hl 6 rfl) ?_
              refine ix_iald hx hb hK hP 4 0 rfl rfl (show i < 640 by omega) (by decide) dX1_look_74 ?_
              refine lv_iload hx hb dX1_look_75 (lv_at hl 5 rfl) ?_
              refine lv_icmp_le (tgt := 90) hx hb dX1_look_77 (by decide) (fun c_21 => ?_) (fun c_21 => ?_)
              · refine lv_iload hx hb dX1_look_90 (lv_at hl 5 rfl) ?_
                refine lv_istore (lv' := [(4, .int (mo_gl C i)), (3, .int (nI (mo_gc S M i))), (2, .int (nI ((mo_df S M i) + 1))), (6, .int (nI (mo_cnt S M i (i + 1)))), (0, .ref y), (1, .int q), (5, .int (nI i))]) hx hb dX1_look_92 hl (by decide) rfl (fun ls hl => ?_)
                refine lv_iinc (v := nI (i + 1)) (lv' := [(5, .int (nI (i + 1))), (4, .int (mo_gl C i)), (3, .int (nI (mo_gc S M i))), (2, .int (nI ((mo_df S M i) + 1))), (6, .int (nI (mo_cnt S M i (i + 1)))), (0, .ref y), (1, .int q)]) hx hb dX1_look_94 hl (k := 6) rfl (nI_1 _) (by decide) rfl (fun ls hl => ?_)
                refine lv_goto (tgt := 15) hx hb dX1_look_97 (by decide) ?_
                have e1 : (mo_df S M i) + 1 = mo_df S M (i + 1) := by rw [mo_df, if_pos c_16]
                have e2 : mo_gc S M i = mo_gc S M (i + 1) := by rw [mo_gc, if_pos c_20]
                have e3 : mo_gl C i = mo_gl C (i + 1) := by rw [mo_gl, if_pos c_21]
                rw [e1, e2, e3] at hl
                exact ihi _ _ (lv_sub hl [5, 6, 3, 2, 1, 0] rfl) (by omega) (by omega)
              · refine lv_aload_n hx hb dX1_look_80 rfl (lv_at hl 3 rfl) ?_
                refine va_get (D := (dC, dI)) (ci := 1) (v := .ref d) (C := RX1) (T := TX1) (N := 7) hx hb hts hinX1 hown hK hP 0 rfl rfl 5 (by decide) hf20 (fun _ h9 => h9) rfl dX1_look_81 ?_
                refine lv_iload hx hb dX1_look_84 (lv_at hl 6 rfl) ?_
                refine ix_iald hx hb hK hP 4 0 rfl rfl (show i < 640 by omega) (by decide) dX1_look_86 ?_
                refine lv_goto (tgt := 92) hx hb dX1_look_87 (by decide) ?_
                refine lv_istore (lv' := [(4, .int (C i)), (3, .int (nI (mo_gc S M i))), (2, .int (nI ((mo_df S M i) + 1))), (6, .int (nI (mo_cnt S M i (i + 1)))), (0, .ref y), (1, .int q), (5, .int (nI i))]) hx hb dX1_look_92 hl (by decide) rfl (fun ls hl => ?_)
                refine lv_iinc (v := nI (i + 1)) (lv' := [(5, .int (nI (i + 1))), (4, .int (C i)), (3, .int (nI (mo_gc S M i))), (2, .int (nI ((mo_df S M i) + 1))), (6, .int (nI (mo_cnt S M i (i + 1)))), (0, .ref y), (1, .int q)]) hx hb dX1_look_94 hl (k := 6) rfl (nI_1 _) (by decide) rfl (fun ls hl => ?_)
                refine lv_goto (tgt := 15) hx hb dX1_look_97 (by decide) ?_
                have e1 : (mo_df S M i) + 1 = mo_df S M (i + 1) := by rw [mo_df, if_pos c_16]
                have e2 : mo_gc S M i = mo_gc S M (i + 1) := by rw [mo_gc, if_pos c_20]
                have e3 : C i = mo_gl C (i + 1) := by rw [mo_gl, if_neg c_21]
                rw [e1, e2, e3] at hl
                exact ihi _ _ (lv_sub hl [5, 6, 3, 2, 1, 0] rfl) (by omega) (by omega)
            · have c_20 : ¬ ((mo_cnt S M i (i + 1)) ≤ (mo_gc S M i)) := fun h => c_20 ((nI_leI (show mo_cnt S M i (i + 1) < 2 ^ 31 by omega) (show mo_gc S M i < 2 ^ 31 by omega)).mpr h)
              refine lv_iload hx hb dX1_look_61 (lv_at hl 1 rfl) ?_
              refine lv_goto (tgt := 67) hx hb dX1_look_63 (by decide) ?_
              refine lv_istore_n (lv' := [(3, .int (nI (mo_cnt S M i (i + 1)))), (2, .int (nI ((mo_df S M i) + 1))), (6, .int (nI (mo_cnt S M i (i + 1)))), (0, .ref y), (1, .int q), (4, .int (mo_gl C i)), (5, .int (nI i))]) hx hb dX1_look_67 rfl hl (by decide) rfl (fun ls hl => ?_)
              refine lv_aload_n hx hb dX1_look_68 rfl (lv_at hl 3 rfl) ?_
              refine va_get (D := (dC, dI)) (ci := 1) (v := .ref d) (C := RX1) (T := TX1) (N := 7) hx hb hts hinX1 hown hK hP 0 rfl rfl 5 (by decide) hf20 (fun _ h9 => h9) rfl dX1_look_69 ?_
              refine lv_iload hx hb dX1_look_72 (lv_at hl 6 rfl) ?_
              refine ix_iald hx hb hK hP 4 0 rfl rfl (show i < 640 by omega) (by decide) dX1_look_74 ?_
              refine lv_iload hx hb dX1_look_75 (lv_at hl 5 rfl) ?_
              refine lv_icmp_le (tgt := 90) hx hb dX1_look_77 (by decide) (fun c_22 => ?_) (fun c_22 => ?_)
              · refine lv_iload hx hb dX1_look_90 (lv_at hl 5 rfl) ?_
                refine lv_istore (lv' := [(4, .int (mo_gl C i)), (3, .int (nI (mo_cnt S M i (i + 1)))), (2, .int (nI ((mo_df S M i) + 1))), (6, .int (nI (mo_cnt S M i (i + 1)))), (0, .ref y), (1, .int q), (5, .int (nI i))]) hx hb dX1_look_92 hl (by decide) rfl (fun ls hl => ?_)
                refine lv_iinc (v := nI (i + 1)) (lv' := [(5, .int (nI (i + 1))), (4, .int (mo_gl C i)), (3, .int (nI (mo_cnt S M i (i + 1)))), (2, .int (nI ((mo_df S M i) + 1))), (6, .int (nI (mo_cnt S M i (i + 1)))), (0, .ref y), (1, .int q)]) hx hb dX1_look_94 hl (k := 6) rfl (nI_1 _) (by decide) rfl (fun ls hl => ?_)
                refine lv_goto (tgt := 15) hx hb dX1_look_97 (by decide) ?_
                have e1 : (mo_df S M i) + 1 = mo_df S M (i + 1) := by rw [mo_df, if_pos c_16]
                have e2 : mo_cnt S M i (i + 1) = mo_gc S M (i + 1) := by rw [mo_gc, if_neg c_20]
                have e3 : mo_gl C i = mo_gl C (i + 1) := by rw [mo_gl, if_pos c_22]
                rw [e1, e2, e3] at hl
                exact ihi _ _ (lv_sub hl [5, 6, 3, 2, 1, 0] rfl) (by omega) (by omega)
              · refine lv_aload_n hx hb dX1_look_80 rfl (lv_at hl 3 rfl) ?_
                refine va_get (D := (dC, dI)) (ci := 1) (v := .ref d) (C := RX1) (T := TX1) (N := 7) hx hb hts hinX1 hown hK hP 0 rfl rfl 5 (by decide) hf20 (fun _ h9 => h9) rfl dX1_look_81 ?_
                refine lv_iload hx hb dX1_look_84 (lv_at hl 6 rfl) ?_
                refine ix_iald hx hb hK hP 4 0 rfl rfl (show i < 640 by omega) (by decide) dX1_look_86 ?_
                refine lv_goto (tgt := 92) hx hb dX1_look_87 (by decide) ?_
                refine lv_istore (lv' := [(4, .int (C i)), (3, .int (nI (mo_cnt S M i (i + 1)))), (2, .int (nI ((mo_df S M i) + 1))), (6, .int (nI (mo_cnt S M i (i + 1)))), (0, .ref y), (1, .int q), (5, .int (nI i))]) hx hb dX1_look_92 hl (by decide) rfl (fun ls hl => ?_)
                refine lv_iinc (v := nI (i + 1)) (lv' := [(5, .int (nI (i + 1))), (4, .int (C i)), (3, .int (nI (mo_cnt S M i (i + 1)))), (2, .int (nI ((mo_df S M i) + 1))), (6, .int (nI (mo_cnt S M i (i + 1)))), (0, .ref y), (1, .int q)]) hx hb dX1_look_94 hl (k := 6) rfl (nI_1 _) (by decide) rfl (fun ls hl => ?_)
                refine lv_goto (tgt := 15) hx hb dX1_look_97 (by decide) ?_
                have e1 : (mo_df S M i) + 1 = mo_df S M (i + 1) := by rw [mo_df, if_pos c_16]
                have e2 : mo_cnt S M i (i + 1) = mo_gc S M (i + 1) := by rw [mo_gc, if_neg c_20]
                have e3 : C i = mo_gl C (i + 1) := by rw [mo_gl, if_neg c_22]
                rw [e1, e2, e3] at hl
                exact ihi _ _ (lv_sub hl [5, 6, 3, 2, 1, 0] rfl) (by omega) (by omega)
end
section
set_option maxHeartbeats 4000000 in
set_option maxRecDepth 100000 in
theorem k_X0_init (l : Launch) (dC : Nat → ClassId) (dI : Nat → Nat → Nat) (x sz : Nat) : Met l yX0_init wsX0_init ({ frames := 1, cells := 3, slots := 7684, locals := 12 } : Room) (wr (dC, dI) [(x, .inr (0, [.null, .null, .null, .int 0]))] [] sz [.ref x]) (va_Qv (fun (_ : Unit) => True) (fun _ t9 => ∃ (g t f : Nat) (cI cJ : ClassId), wrB (dC, dI) (wX cI cJ x g t f (fun _ => 0) (fun _ => 0) (fun _ => 0) 0) (tK cI cJ) (va_A [(x, .inr (0, [.null, .null, .null, .int 0]))] sz) t9) (va_A [(x, .inr (0, [.null, .null, .null, .int 0]))] sz)) 3 7684 (va_A [(x, .inr (0, [.null, .null, .null, .int 0]))] sz) := by
  refine Met.ofW (cc := cX0_init) (maxL := 1) (ret := none) (by decide) rfl ?_
  intro p e s m args below meth c s₁ B hml hv
  obtain ⟨rfl, hsz, hP, hK, hD0⟩ := hv
  have hx := B.exec
  have hb := B.bytes
  have hr := B.returns
  have hts := atoms_spec (ws := wsX0_init) B.pre
  have hown : s.vm.findClass RX0 = some m.cls := findClass_of_methodNamed B.named
  have hlocks := B.notSynchronized
  have hinX0 : ∀ w ∈ u_ws RX0 TX0 4, w ∈ wsX0_init := by decide +kernel
  have hf9 := hts (.fieldLink RX0 9 "GameArbiter" "given" "[J") (by decide +kernel)
  have hf13 := hts (.fieldLink RX0 13 "GameArbiter" "told" "[J") (by decide +kernel)
  have hf16 := hts (.fieldLink RX0 16 "GameArbiter" "facts" "[I") (by decide +kernel)
  have hf20 := hts (.fieldLink RX0 20 "GameArbiter" "positions" "I") (by decide +kernel)
  have hl := lv_entry ([.ref x]) (n := 1) (Nat.le_of_ble_eq_true rfl)
  rw [lg_entry_eq]
  generalize (lg_sl ([.ref x]) ++ List.replicate (1 - (lg_sl ([.ref x])).length) Slot.unset).toArray = ls at hl ⊢
  replace hl : lv_has ls 1 [(0, .ref x)] := hl
  have hin : meth.name = "<init>" := (name_of_methodNamed B.named B.method).1
  subst hsz
  have hD := hD0.self (sz := s.heap.size)
  generalize hAe : va_A [(x, .inr (0, [.null, .null, .null, .int 0]))] s.heap.size = A at hD ⊢
  have hA : ∀ q : Nat, s.heap.size ≤ q → A q := fun q h => by rw [← hAe]; exact Or.inr h
  have hS : va_S A s.heap s.heap [] := va_S.rf
  replace hP : va_P (dC, dI) vwCl [(x, .inr (0, [.null, .null, .null, .int 0]))] s.heap := hP
  replace hD : va_D A [(x, .inr (0, [.null, .null, .null, .int 0]))] := hD
  refine lv_aload_n hx hb dX0_init_0 rfl (lv_at hl 0 rfl) ?_
  refine W.objInit hx hb hown (hts (.methodLink RX0 1 objectInit) (by decide +kernel)) (hts (.instanceMethod objectInit) (by decide +kernel)) (hts _ (List.mem_cons_of_mem _ (List.mem_append_left _ (List.mem_of_getElem? (i := 2) rfl)))) rfl (by rw [hml]; exact hl.1) rfl dX0_init_1 (Nat.le_of_ble_eq_true rfl) (Nat.le_of_ble_eq_true rfl) ?_
  refine W.eq (g2 := F0 m 4 ls []) rfl ?_
  refine lv_aload_n hx hb dX0_init_4 rfl (lv_at hl 0 rfl) ?_
  refine lv_iconst (v := nI 4) hx hb dX0_init_5 (by decide) ?_
  refine ix_newl hx hb (hts (.arrayClass .long) (by decide +kernel)) hK hP hD hS hA (k := 4) (by decide) (Nat.le_of_ble_eq_true rfl) (Nat.le_of_ble_eq_true rfl) dX0_init_6 (fun g cJ H hK hP hD hS => ?_)
  refine W.widen (k := 1) (n := 4) (by omega) (by omega) ?_
  replace hK : va_K (dC, dI) vwCl [(cJ, .long)] s := hK
  replace hP : va_P (dC, dI) vwCl [(x, .inr (0, [.null, .null, .null, .int 0])), (g, .inl (cJ, 4, .inr (.inl (fun _ => 0))))] H := hP
  replace hD : va_D A [(x, .inr (0, [.null, .null, .null, .int 0])), (g, .inl (cJ, 4, .inr (.inl (fun _ => 0))))] := hD
  refine va_putF (D := (dC, dI)) (ci := 0) (v := .ref g) (ty := .array .long) (C := RX0) (T := TX0) (N := 4) hx hb hts hinX0 tyX0 tyX0_ok nmX0 hown hK hP hD hS 0 rfl rfl 0 (by decide) hf9 (fun _ h9 => h9) rfl hin rfl (by decide +kernel) rfl rfl (Nat.le_of_ble_eq_true rfl) dX0_init_8 (fun H locs hP hD hS => ?_)
  replace hP : va_P (dC, dI) vwCl [(x, .inr (0, [.ref g, .null, .null, .int 0])), (g, .inl (cJ, 4, .inr (.inl (fun _ => 0))))] H := hP
  replace hD : va_D A [(x, .inr (0, [.ref g, .null, .null, .int 0])), (g, .inl (cJ, 4, .inr (.inl (fun _ => 0))))] := hD
  refine lv_aload_n hx hb dX0_init_11 rfl (lv_at hl 0 rfl) ?_
  refine lv_sipush (v := nI 2560) hx hb dX0_init_12 (by decide) ?_
  refine ix_newl hx hb (hts (.arrayClass .long) (by decide +kernel)) hK hP hD hS hA (k := 2560) (by decide) (Nat.le_of_ble_eq_true rfl) (Nat.le_of_ble_eq_true rfl) dX0_init_15 (fun t cz H hK hP hD hS => ?_)
  refine W.widen (k := 2) (n := 2564) (by omega) (by omega) ?_
  obtain rfl := ty_long (i := 0) (j := 1) hK rfl rfl
  replace hK : va_K (dC, dI) vwCl [(cJ, .long)] s := hK.sub [0] rfl
  replace hP : va_P (dC, dI) vwCl [(x, .inr (0, [.ref g, .null, .null, .int 0])), (g, .inl (cJ, 4, .inr (.inl (fun _ => 0)))), (t, .inl (cJ, 2560, .inr (.inl (fun _ => 0))))] H := hP
  replace hD : va_D A [(x, .inr (0, [.ref g, .null, .null, .int 0])), (g, .inl (cJ, 4, .inr (.inl (fun _ => 0)))), (t, .inl (cJ, 2560, .inr (.inl (fun _ => 0))))] := hD
  refine va_putF (D := (dC, dI)) (ci := 0) (v := .ref t) (ty := .array .long) (C := RX0) (T := TX0) (N := 4) hx hb hts hinX0 tyX0 tyX0_ok nmX0 hown hK hP hD hS 0 rfl rfl 1 (by decide) hf13 (fun _ h9 => h9) rfl hin rfl (by decide +kernel) rfl rfl (Nat.le_of_ble_eq_true rfl) dX0_init_17 (fun H locs hP hD hS => ?_)
  replace hP : va_P (dC, dI) vwCl [(x, .inr (0, [.ref g, .ref t, .null, .int 0])), (g, .inl (cJ, 4, .inr (.inl (fun _ => 0)))), (t, .inl (cJ, 2560, .inr (.inl (fun _ => 0))))] H := hP
  replace hD : va_D A [(x, .inr (0, [.ref g, .ref t, .null, .int 0])), (g, .inl (cJ, 4, .inr (.inl (fun _ => 0)))), (t, .inl (cJ, 2560, .inr (.inl (fun _ => 0))))] := hD
  refine lv_aload_n hx hb dX0_init_20 rfl (lv_at hl 0 rfl) ?_
  refine lv_sipush (v := nI 5120) hx hb dX0_init_21 (by decide) ?_
  refine ix_newi hx hb (hts (.arrayClass .int) (by decide +kernel)) hK hP hD hS hA (k := 5120) (by decide) (Nat.le_of_ble_eq_true rfl) (Nat.le_of_ble_eq_true rfl) dX0_init_24 (fun f cI H hK hP hD hS => ?_)
  refine W.widen (k := 3) (n := 7684) (by omega) (by omega) ?_
  replace hK : va_K (dC, dI) vwCl [(cJ, .long), (cI, .int)] s := hK
  replace hP : va_P (dC, dI) vwCl [(x, .inr (0, [.ref g, .ref t, .null, .int 0])), (g, .inl (cJ, 4, .inr (.inl (fun _ => 0)))), (t, .inl (cJ, 2560, .inr (.inl (fun _ => 0)))), (f, .inl (cI, 5120, .inl (fun _ => 0)))] H := hP
  replace hD : va_D A [(x, .inr (0, [.ref g, .ref t, .null, .int 0])), (g, .inl (cJ, 4, .inr (.inl (fun _ => 0)))), (t, .inl (cJ, 2560, .inr (.inl (fun _ => 0)))), (f, .inl (cI, 5120, .inl (fun _ => 0)))] := hD
  refine va_putF (D := (dC, dI)) (ci := 0) (v := .ref f) (ty := .array .int) (C := RX0) (T := TX0) (N := 4) hx hb hts hinX0 tyX0 tyX0_ok nmX0 hown hK hP hD hS 0 rfl rfl 2 (by decide) hf16 (fun _ h9 => h9) rfl hin rfl (by decide +kernel) rfl rfl (Nat.le_of_ble_eq_true rfl) dX0_init_26 (fun H locs hP hD hS => ?_)
  replace hP : va_P (dC, dI) vwCl [(x, .inr (0, [.ref g, .ref t, .ref f, .int 0])), (g, .inl (cJ, 4, .inr (.inl (fun _ => 0)))), (t, .inl (cJ, 2560, .inr (.inl (fun _ => 0)))), (f, .inl (cI, 5120, .inl (fun _ => 0)))] H := hP
  replace hD : va_D A [(x, .inr (0, [.ref g, .ref t, .ref f, .int 0])), (g, .inl (cJ, 4, .inr (.inl (fun _ => 0)))), (t, .inl (cJ, 2560, .inr (.inl (fun _ => 0)))), (f, .inl (cI, 5120, .inl (fun _ => 0)))] := hD
  refine lv_aload_n hx hb dX0_init_29 rfl (lv_at hl 0 rfl) ?_
  refine lv_iconst (v := nI 0) hx hb dX0_init_30 (by decide) ?_
  refine va_put (D := (dC, dI)) (ci := 0) (v := .int (nI 0)) (ty := .int) (C := RX0) (T := TX0) (N := 4) hx hb hts hinX0 tyX0 tyX0_ok nmX0 hown hK hP hD hS 0 rfl rfl 3 (by decide) hf20 (fun _ h9 => h9) rfl (by decide +kernel) rfl rfl (Nat.le_of_ble_eq_true rfl) dX0_init_31 (fun H locs hP hD hS => ?_)
  replace hP : va_P (dC, dI) vwCl [(x, .inr (0, [.ref g, .ref t, .ref f, .int (nI 0)])), (g, .inl (cJ, 4, .inr (.inl (fun _ => 0)))), (t, .inl (cJ, 2560, .inr (.inl (fun _ => 0)))), (f, .inl (cI, 5120, .inl (fun _ => 0)))] H := hP
  replace hD : va_D A [(x, .inr (0, [.ref g, .ref t, .ref f, .int (nI 0)])), (g, .inl (cJ, 4, .inr (.inl (fun _ => 0)))), (t, .inl (cJ, 2560, .inr (.inl (fun _ => 0)))), (f, .inl (cI, 5120, .inl (fun _ => 0)))] := hD
  exact W.vret hx hb hr (fun t9 ht hW => ⟨⟨(), rfl, trivial, g, t, f, cI, cJ, by rw [ht]; exact hP, va_K.moved hW.alike hK, hD⟩, hS.F ht⟩) hS.2.2 dX0_init_34
set_option maxHeartbeats 4000000 in
set_option maxRecDepth 100000 in
theorem k_X1_init (l : Launch) (dC : Nat → ClassId) (dI : Nat → Nat → Nat) (y sz : Nat) : Met l yX1_init wsX1_init ({ frames := 1, cells := 5, slots := 42944, locals := 12 } : Room) (wr (dC, dI) [(y, .inr (1, [.int 0, .null, .int 0, .null, .null, .null, .null]))] [] sz [.ref y]) (va_Qv (fun (_ : Unit) => True) (fun _ t9 => ∃ (a b c9 d v : Nat) (cI : ClassId), wrB (dC, dI) (wM cI y a b c9 d v 0 (fun _ => 0) 0 (fun _ => 0) (fun _ => 0) (fun _ => 0) (fun _ => 0)) (tM cI) (va_A [(y, .inr (1, [.int 0, .null, .int 0, .null, .null, .null, .null]))] sz) t9) (va_A [(y, .inr (1, [.int 0, .null, .int 0, .null, .null, .null, .null]))] sz)) 5 42944 (va_A [(y, .inr (1, [.int 0, .null, .int 0, .null, .null, .null, .null]))] sz) := by
  refine Met.ofW (cc := cX1_init) (maxL := 1) (ret := none) (by decide) rfl ?_
  intro p e s m args below meth c s₁ B hml hv
  obtain ⟨rfl, hsz, hP, hK, hD0⟩ := hv
  have hx := B.exec
  have hb := B.bytes
  have hr := B.returns
  have hts := atoms_spec (ws := wsX1_init) B.pre
  have hown : s.vm.findClass RX1 = some m.cls := findClass_of_methodNamed B.named
  have hlocks := B.notSynchronized
  have hinX1 : ∀ w ∈ u_ws RX1 TX1 7, w ∈ wsX1_init := by decide +kernel
  have hf7 := hts (.fieldLink RX1 7 "GameArbiterModel" "next" "[I") (by decide +kernel)
  have hf14 := hts (.fieldLink RX1 14 "GameArbiterModel" "men" "[I") (by decide +kernel)
  have hf17 := hts (.fieldLink RX1 17 "GameArbiterModel" "states" "[I") (by decide +kernel)
  have hf20 := hts (.fieldLink RX1 20 "GameArbiterModel" "clocks" "[I") (by decide +kernel)
  have hf23 := hts (.fieldLink RX1 23 "GameArbiterModel" "verdicts" "[I") (by decide +kernel)
  have hl := lv_entry ([.ref y]) (n := 1) (Nat.le_of_ble_eq_true rfl)
  rw [lg_entry_eq]
  generalize (lg_sl ([.ref y]) ++ List.replicate (1 - (lg_sl ([.ref y])).length) Slot.unset).toArray = ls at hl ⊢
  replace hl : lv_has ls 1 [(0, .ref y)] := hl
  have hin : meth.name = "<init>" := (name_of_methodNamed B.named B.method).1
  subst hsz
  have hD := hD0.self (sz := s.heap.size)
  generalize hAe : va_A [(y, .inr (1, [.int 0, .null, .int 0, .null, .null, .null, .null]))] s.heap.size = A at hD ⊢
  have hA : ∀ q : Nat, s.heap.size ≤ q → A q := fun q h => by rw [← hAe]; exact Or.inr h
  have hS : va_S A s.heap s.heap [] := va_S.rf
  replace hP : va_P (dC, dI) vwCl [(y, .inr (1, [.int 0, .null, .int 0, .null, .null, .null, .null]))] s.heap := hP
  replace hD : va_D A [(y, .inr (1, [.int 0, .null, .int 0, .null, .null, .null, .null]))] := hD
  refine lv_aload_n hx hb dX1_init_0 rfl (lv_at hl 0 rfl) ?_
  refine W.objInit hx hb hown (hts (.methodLink RX1 1 objectInit) (by decide +kernel)) (hts (.instanceMethod objectInit) (by decide +kernel)) (hts _ (List.mem_cons_of_mem _ (List.mem_append_left _ (List.mem_of_getElem? (i := 2) rfl)))) rfl (by rw [hml]; exact hl.1) rfl dX1_init_1 (Nat.le_of_ble_eq_true rfl) (Nat.le_of_ble_eq_true rfl) ?_
  refine W.eq (g2 := F0 m 4 ls []) rfl ?_
  refine lv_aload_n hx hb dX1_init_4 rfl (lv_at hl 0 rfl) ?_
  refine lv_bipush (v := nI 64) hx hb dX1_init_5 (by decide) ?_
  refine ix_newi hx hb (hts (.arrayClass .int) (by decide +kernel)) hK hP hD hS hA (k := 64) (by decide) (Nat.le_of_ble_eq_true rfl) (Nat.le_of_ble_eq_true rfl) dX1_init_7 (fun a cI H hK hP hD hS => ?_)
  refine W.widen (k := 1) (n := 64) (by omega) (by omega) ?_
  replace hK : va_K (dC, dI) vwCl [(cI, .int)] s := hK
  replace hP : va_P (dC, dI) vwCl [(y, .inr (1, [.int 0, .null, .int 0, .null, .null, .null, .null])), (a, .inl (cI, 64, .inl (fun _ => 0)))] H := hP
  replace hD : va_D A [(y, .inr (1, [.int 0, .null, .int 0, .null, .null, .null, .null])), (a, .inl (cI, 64, .inl (fun _ => 0)))] := hD
  refine va_putF (D := (dC, dI)) (ci := 1) (v := .ref a) (ty := .array .int) (C := RX1) (T := TX1) (N := 7) hx hb hts hinX1 tyX1 tyX1_ok nmX1 hown hK hP hD hS 0 rfl rfl 1 (by decide) hf7 (fun _ h9 => h9) rfl hin rfl (by decide +kernel) rfl rfl (Nat.le_of_ble_eq_true rfl) dX1_init_9 (fun H locs hP hD hS => ?_)
  replace hP : va_P (dC, dI) vwCl [(y, .inr (1, [.int 0, .ref a, .int 0, .null, .null, .null, .null])), (a, .inl (cI, 64, .inl (fun _ => 0)))] H := hP
  replace hD : va_D A [(y, .inr (1, [.int 0, .ref a, .int 0, .null, .null, .null, .null])), (a, .inl (cI, 64, .inl (fun _ => 0)))] := hD
  refine lv_aload_n hx hb dX1_init_12 rfl (lv_at hl 0 rfl) ?_
  refine lv_ldc (v := (40960)) hx hb hown (hts (.constant RX1 13 (40960)) (by decide +kernel)) dX1_init_13 ?_
  refine lv_is (y := nI 40960) (by decide) ?_
  refine ix_newi hx hb (hts (.arrayClass .int) (by decide +kernel)) hK hP hD hS hA (k := 40960) (by decide) (Nat.le_of_ble_eq_true rfl) (Nat.le_of_ble_eq_true rfl) dX1_init_15 (fun b cz H hK hP hD hS => ?_)
  refine W.widen (k := 2) (n := 41024) (by omega) (by omega) ?_
  obtain rfl := ty_int (i := 0) (j := 1) hK rfl rfl
  replace hK : va_K (dC, dI) vwCl [(cI, .int)] s := hK.sub [0] rfl
  replace hP : va_P (dC, dI) vwCl [(y, .inr (1, [.int 0, .ref a, .int 0, .null, .null, .null, .null])), (a, .inl (cI, 64, .inl (fun _ => 0))), (b, .inl (cI, 40960, .inl (fun _ => 0)))] H := hP
  replace hD : va_D A [(y, .inr (1, [.int 0, .ref a, .int 0, .null, .null, .null, .null])), (a, .inl (cI, 64, .inl (fun _ => 0))), (b, .inl (cI, 40960, .inl (fun _ => 0)))] := hD
  refine va_putF (D := (dC, dI)) (ci := 1) (v := .ref b) (ty := .array .int) (C := RX1) (T := TX1) (N := 7) hx hb hts hinX1 tyX1 tyX1_ok nmX1 hown hK hP hD hS 0 rfl rfl 3 (by decide) hf14 (fun _ h9 => h9) rfl hin rfl (by decide +kernel) rfl rfl (Nat.le_of_ble_eq_true rfl) dX1_init_17 (fun H locs hP hD hS => ?_)
  replace hP : va_P (dC, dI) vwCl [(y, .inr (1, [.int 0, .ref a, .int 0, .ref b, .null, .null, .null])), (a, .inl (cI, 64, .inl (fun _ => 0))), (b, .inl (cI, 40960, .inl (fun _ => 0)))] H := hP
  replace hD : va_D A [(y, .inr (1, [.int 0, .ref a, .int 0, .ref b, .null, .null, .null])), (a, .inl (cI, 64, .inl (fun _ => 0))), (b, .inl (cI, 40960, .inl (fun _ => 0)))] := hD
  refine lv_aload_n hx hb dX1_init_20 rfl (lv_at hl 0 rfl) ?_
  refine lv_sipush (v := nI 640) hx hb dX1_init_21 (by decide) ?_
  refine ix_newi hx hb (hts (.arrayClass .int) (by decide +kernel)) hK hP hD hS hA (k := 640) (by decide) (Nat.le_of_ble_eq_true rfl) (Nat.le_of_ble_eq_true rfl) dX1_init_24 (fun c9 cz H hK hP hD hS => ?_)
  refine W.widen (k := 3) (n := 41664) (by omega) (by omega) ?_
  obtain rfl := ty_int (i := 0) (j := 1) hK rfl rfl
  replace hK : va_K (dC, dI) vwCl [(cI, .int)] s := hK.sub [0] rfl
  replace hP : va_P (dC, dI) vwCl [(y, .inr (1, [.int 0, .ref a, .int 0, .ref b, .null, .null, .null])), (a, .inl (cI, 64, .inl (fun _ => 0))), (b, .inl (cI, 40960, .inl (fun _ => 0))), (c9, .inl (cI, 640, .inl (fun _ => 0)))] H := hP
  replace hD : va_D A [(y, .inr (1, [.int 0, .ref a, .int 0, .ref b, .null, .null, .null])), (a, .inl (cI, 64, .inl (fun _ => 0))), (b, .inl (cI, 40960, .inl (fun _ => 0))), (c9, .inl (cI, 640, .inl (fun _ => 0)))] := hD
  refine va_putF (D := (dC, dI)) (ci := 1) (v := .ref c9) (ty := .array .int) (C := RX1) (T := TX1) (N := 7) hx hb hts hinX1 tyX1 tyX1_ok nmX1 hown hK hP hD hS 0 rfl rfl 4 (by decide) hf17 (fun _ h9 => h9) rfl hin rfl (by decide +kernel) rfl rfl (Nat.le_of_ble_eq_true rfl) dX1_init_26 (fun H locs hP hD hS => ?_)
  replace hP : va_P (dC, dI) vwCl [(y, .inr (1, [.int 0, .ref a, .int 0, .ref b, .ref c9, .null, .null])), (a, .inl (cI, 64, .inl (fun _ => 0))), (b, .inl (cI, 40960, .inl (fun _ => 0))), (c9, .inl (cI, 640, .inl (fun _ => 0)))] H := hP
  replace hD : va_D A [(y, .inr (1, [.int 0, .ref a, .int 0, .ref b, .ref c9, .null, .null])), (a, .inl (cI, 64, .inl (fun _ => 0))), (b, .inl (cI, 40960, .inl (fun _ => 0))), (c9, .inl (cI, 640, .inl (fun _ => 0)))] := hD
  refine lv_aload_n hx hb dX1_init_29 rfl (lv_at hl 0 rfl) ?_
  refine lv_sipush (v := nI 640) hx hb dX1_init_30 (by decide) ?_
  refine ix_newi hx hb (hts (.arrayClass .int) (by decide +kernel)) hK hP hD hS hA (k := 640) (by decide) (Nat.le_of_ble_eq_true rfl) (Nat.le_of_ble_eq_true rfl) dX1_init_33 (fun d cz H hK hP hD hS => ?_)
  refine W.widen (k := 4) (n := 42304) (by omega) (by omega) ?_
  obtain rfl := ty_int (i := 0) (j := 1) hK rfl rfl
  replace hK : va_K (dC, dI) vwCl [(cI, .int)] s := hK.sub [0] rfl
  replace hP : va_P (dC, dI) vwCl [(y, .inr (1, [.int 0, .ref a, .int 0, .ref b, .ref c9, .null, .null])), (a, .inl (cI, 64, .inl (fun _ => 0))), (b, .inl (cI, 40960, .inl (fun _ => 0))), (c9, .inl (cI, 640, .inl (fun _ => 0))), (d, .inl (cI, 640, .inl (fun _ => 0)))] H := hP
  replace hD : va_D A [(y, .inr (1, [.int 0, .ref a, .int 0, .ref b, .ref c9, .null, .null])), (a, .inl (cI, 64, .inl (fun _ => 0))), (b, .inl (cI, 40960, .inl (fun _ => 0))), (c9, .inl (cI, 640, .inl (fun _ => 0))), (d, .inl (cI, 640, .inl (fun _ => 0)))] := hD
  refine va_putF (D := (dC, dI)) (ci := 1) (v := .ref d) (ty := .array .int) (C := RX1) (T := TX1) (N := 7) hx hb hts hinX1 tyX1 tyX1_ok nmX1 hown hK hP hD hS 0 rfl rfl 5 (by decide) hf20 (fun _ h9 => h9) rfl hin rfl (by decide +kernel) rfl rfl (Nat.le_of_ble_eq_true rfl) dX1_init_35 (fun H locs hP hD hS => ?_)
  replace hP : va_P (dC, dI) vwCl [(y, .inr (1, [.int 0, .ref a, .int 0, .ref b, .ref c9, .ref d, .null])), (a, .inl (cI, 64, .inl (fun _ => 0))), (b, .inl (cI, 40960, .inl (fun _ => 0))), (c9, .inl (cI, 640, .inl (fun _ => 0))), (d, .inl (cI, 640, .inl (fun _ => 0)))] H := hP
  replace hD : va_D A [(y, .inr (1, [.int 0, .ref a, .int 0, .ref b, .ref c9, .ref d, .null])), (a, .inl (cI, 64, .inl (fun _ => 0))), (b, .inl (cI, 40960, .inl (fun _ => 0))), (c9, .inl (cI, 640, .inl (fun _ => 0))), (d, .inl (cI, 640, .inl (fun _ => 0)))] := hD
  refine lv_aload_n hx hb dX1_init_38 rfl (lv_at hl 0 rfl) ?_
  refine lv_sipush (v := nI 640) hx hb dX1_init_39 (by decide) ?_
  refine ix_newi hx hb (hts (.arrayClass .int) (by decide +kernel)) hK hP hD hS hA (k := 640) (by decide) (Nat.le_of_ble_eq_true rfl) (Nat.le_of_ble_eq_true rfl) dX1_init_42 (fun v cz H hK hP hD hS => ?_)
  refine W.widen (k := 5) (n := 42944) (by omega) (by omega) ?_
  obtain rfl := ty_int (i := 0) (j := 1) hK rfl rfl
  replace hK : va_K (dC, dI) vwCl [(cI, .int)] s := hK.sub [0] rfl
  replace hP : va_P (dC, dI) vwCl [(y, .inr (1, [.int 0, .ref a, .int 0, .ref b, .ref c9, .ref d, .null])), (a, .inl (cI, 64, .inl (fun _ => 0))), (b, .inl (cI, 40960, .inl (fun _ => 0))), (c9, .inl (cI, 640, .inl (fun _ => 0))), (d, .inl (cI, 640, .inl (fun _ => 0))), (v, .inl (cI, 640, .inl (fun _ => 0)))] H := hP
  replace hD : va_D A [(y, .inr (1, [.int 0, .ref a, .int 0, .ref b, .ref c9, .ref d, .null])), (a, .inl (cI, 64, .inl (fun _ => 0))), (b, .inl (cI, 40960, .inl (fun _ => 0))), (c9, .inl (cI, 640, .inl (fun _ => 0))), (d, .inl (cI, 640, .inl (fun _ => 0))), (v, .inl (cI, 640, .inl (fun _ => 0)))] := hD
  refine va_putF (D := (dC, dI)) (ci := 1) (v := .ref v) (ty := .array .int) (C := RX1) (T := TX1) (N := 7) hx hb hts hinX1 tyX1 tyX1_ok nmX1 hown hK hP hD hS 0 rfl rfl 6 (by decide) hf23 (fun _ h9 => h9) rfl hin rfl (by decide +kernel) rfl rfl (Nat.le_of_ble_eq_true rfl) dX1_init_44 (fun H locs hP hD hS => ?_)
  replace hP : va_P (dC, dI) vwCl [(y, .inr (1, [.int 0, .ref a, .int 0, .ref b, .ref c9, .ref d, .ref v])), (a, .inl (cI, 64, .inl (fun _ => 0))), (b, .inl (cI, 40960, .inl (fun _ => 0))), (c9, .inl (cI, 640, .inl (fun _ => 0))), (d, .inl (cI, 640, .inl (fun _ => 0))), (v, .inl (cI, 640, .inl (fun _ => 0)))] H := hP
  replace hD : va_D A [(y, .inr (1, [.int 0, .ref a, .int 0, .ref b, .ref c9, .ref d, .ref v])), (a, .inl (cI, 64, .inl (fun _ => 0))), (b, .inl (cI, 40960, .inl (fun _ => 0))), (c9, .inl (cI, 640, .inl (fun _ => 0))), (d, .inl (cI, 640, .inl (fun _ => 0))), (v, .inl (cI, 640, .inl (fun _ => 0)))] := hD
  exact W.vret hx hb hr (fun t9 ht hW => ⟨⟨(), rfl, trivial, a, b, c9, d, v, cI, by rw [ht]; exact hP, va_K.moved hW.alike hK, hD⟩, hS.F ht⟩) hS.2.2 dX1_init_47
end
section
/-! the law's own rows -/
section R18
variable {p : Program} {l : Launch} {e : Env} {R : Room} {s : State} {m : MethodId} {args : Array Value} {below : List Frame} {meth : Method} {c : Code} {H : Heap} {locs : List Loc} {cells slots : Nat} {Q : State → Prop}
variable {y : MethodName} {bytes cc : ByteArray} {maxL nL n index pc mc ms : Nat} {ret : Option FieldType} {hh : List (Nat × Nat × Nat × Nat)} {wsC : List Cond} {rm : Room} {Ts : List Cond} {own C : String} {b : Addr} {As rest st : List Value} {ls : Array Slot}
variable {D : va_G} {wall ws ws' ws1 wrst : va_W} {tys : List (ClassId × FieldType)} {q0 ci : Nat} {T : u_T} {NN : Nat} {fs : List Value} {A A0 : Nat → Prop} {H0 : Heap}
/-- a call of a static method with a table, that owns the places isC -/
theorem th_callSW {i1 i2 a1 a2 : Nat} {t1 t2 E1 E2 : String} {post : Int32 → Prop} (S : CallFix p m c cc nL s args Ts own) (hM : Met l y wsC rm (th D ws tys H.size i1 i2 t1 t2 a1 a2 E1 E2 As) (wrQ D ws' tys (va_A ws H.size) post) mc ms (va_A ws H.size)) (cw : vx_CSW R s args own index y bytes maxL ret hh wsC rm mc ms n)
    (hK : va_K D vwCl tys s) (hP : va_P D vwCl wall H) (hD : va_D A0 wall) (hS : va_S A0 H0 H locs) (hA : ∀ q, H0.size ≤ q → A0 q) (hX : xw A0 i1 i2 t1 t2 a1 a2 E1 E2 s H) (isC isR : List Nat) (hC : isC.map (fun i => wall[i]?) = ws.map some) (hR : isR.map (fun i => wall[i]?) = wrst.map some) (h1 : va_nd isC = true) (h2 : va_nd isR = true) (hdis : ∀ i ∈ isR, i ∉ isC)
    (hn : As.length = n) (hsize : ls.size = nL) (hst : st = As.reverse ++ rest) (hW : (rest.map fun v => v.category).sum ≤ 8) (hdg : decode cc pc = .ok (.invokestatic index, 3)) (hf : cells + mc ≤ R.cells ∧ slots + ms ≤ R.slots)
    (kk : ∀ (r : Int32) (H1 : Heap) (locs1 : List Loc), post r → va_P D vwCl (wrst ++ ws') H1 → va_D A0 (wrst ++ ws') → va_S A0 H0 H1 locs1 → W p l e R s m args below meth c H1 locs1 (cells + mc) (slots + ms) Q (F0 m (pc + 3) ls (.int r :: rest))) : W p l e R s m args below meth c H locs cells slots Q (F0 m pc ls st) := by
  have hPc : va_P D vwCl ws H := hP.sub isC (sub_of hC)
  have hDc : va_D A0 ws := hD.sub isC h1 hC
  have hFc := va_free (wc := ws) hD hS hA isC hC
  refine va_calli (vx_runSW (As := As) (rest := rest) S hM cw ⟨th_blind, fun U hU hW => ⟨rfl, by rw [hU], by rw [hU]; exact hPc, va_K.moved hW.alike hK, hDc.weaken (fun _ _ _ _ => trivial), by rw [hU]; exact (hX.narrow hFc).warm hW⟩⟩ rfl hn hsize hst (lv_room hW) hdg hf) hS (fun q _ h => hFc q h) hFc (fun r u t H1 locs1 ht hvm hw hB hz hk hS1 => ?_)
  obtain ⟨hP1, hK1, hD1⟩ := hB
  rw [ht] at hP1
  obtain ⟨hP2, hD2⟩ := va_join hP hD isC isR hC hR h2 hdis hk hFc hP1 hD1
  exact kk r H1 locs1 hw hP2 hD2 hS1
/-- the law's script, by natural numbers -/
theorem ix_sld {b L : Nat} {xs : Nat → Int32} (hexec : p.tables.exec = Jvm.exec) (hb : c.code = cc) (hX : va_X b L xs s H0) (hbl : b < H0.size) (hbA : ¬ A b) (hS : va_S A H0 H locs) {i : Nat} (hi : i < L) (hL : L < 2 ^ 31) (hdg : decode cc pc = .ok (.iaload, 1))
    (kk : W p l e R s m args below meth c H locs cells slots Q (F0 m (pc + 1) ls (.int (xs i) :: rest))) : W p l e R s m args below meth c H locs cells slots Q (F0 m pc ls (.int (nI i) :: .ref b :: rest)) :=
  va_sld hexec hb hX hbl hbA hS (vp_in_nI hi hL) hdg (by rw [nI_clamp (by omega)]; exact kk)
end R18
theorem law_cmp {L i : Nat} (hL : L ≤ 2560) (hi : i ≤ 2560) : nI L - nI 5 < nI i ↔ L < i + 5 := by
  rw [Int32.lt_iff_toInt_lt, pk_sub_toInt (by omega) (by omega), nI_toInt (by omega)]
  omega
end
section
set_option maxHeartbeats 4000000 in
set_option maxRecDepth 100000 in
theorem k_L_begin (l : Launch) (dC : Nat → ClassId) (dI : Nat → Nat → Nat) (cI cJ : ClassId) (x g t f : Nat) (G T : Nat → Int64) (F : Nat → Int32) (n : Nat) (o : Nat) (O : Nat → Int64) (st mv ck cl : Int32) (sz : Nat) (hn : n ≤ 640) {a1 a2 : Nat} (hno : l.stackTraces = false) : Met l yL_begin wsL_begin ({ frames := 7, cells := 1, slots := 6, locals := 145 } : Room) (th (dC, dI) [(x, .inr (0, [.ref g, .ref t, .ref f, .int (nI n)])), (g, .inl (cJ, 4, .inr (.inl G))), (t, .inl (cJ, 2560, .inr (.inl T))), (f, .inl (cI, 5120, .inl F)), (o, .inl (cJ, 1, .inr (.inl O)))] (tK cI cJ) sz 43 43 "the state, the moves or the clock is none that there is" "the state, the moves or the clock is none that there is" a1 a2 "java/lang/IllegalArgumentException" "java/lang/IllegalArgumentException" [.ref x, .int st, .int mv, .int ck, .int cl, .ref o]) (wrQ (dC, dI) [(x, .inr (0, [.ref g, .ref t, .ref f, .int (nI (sel (ga_okB st mv cl) (0 + 1) n))])), (g, .inl (cJ, 4, .inr (.inl G))), (t, .inl (cJ, 2560, .inr (.inl (sel (ga_okB st mv cl) (ap_T G T 0) T)))), (f, .inl (cI, 5120, .inl (sel (ga_okB st mv cl) (ap_F G T F 0 st mv ck cl) F))), (o, .inl (cJ, 1, .inr (.inl (sel (ga_okB st mv cl) (vp_updL O 0 ((ap_vd G T F 0 st mv ck cl).toInt64)) O))))] (tK cI cJ) (va_A [(x, .inr (0, [.ref g, .ref t, .ref f, .int (nI n)])), (g, .inl (cJ, 4, .inr (.inl G))), (t, .inl (cJ, 2560, .inr (.inl T))), (f, .inl (cI, 5120, .inl F)), (o, .inl (cJ, 1, .inr (.inl O)))] sz) (fun r => r = nI (ga_okB st mv cl))) 1 6 (va_A [(x, .inr (0, [.ref g, .ref t, .ref f, .int (nI n)])), (g, .inl (cJ, 4, .inr (.inl G))), (t, .inl (cJ, 2560, .inr (.inl T))), (f, .inl (cI, 5120, .inl F)), (o, .inl (cJ, 1, .inr (.inl O)))] sz) := by
  refine va_MetW (cc := cL_begin) (maxL := 7) (ret := (some .int)) (hh := [(0, 14, 17, 13)]) (by decide) rfl ?_
  intro p e s m args below meth c s₁ B hml hv
  obtain ⟨rfl, hsz, hP, hK, hD0, hX⟩ := hv
  have hx := B.exec
  have hb := B.bytes
  have hr := B.returns
  have hts := atoms_spec (ws := wsL_begin) B.pre
  have hown : s.vm.findClass RL = some m.cls := findClass_of_methodNamed B.named
  have hlocks := B.notSynchronized
  have hl := lv_entry ([.ref x, .int st, .int mv, .int ck, .int cl, .ref o]) (n := 7) (Nat.le_of_ble_eq_true rfl)
  rw [lg_entry_eq]
  generalize (lg_sl ([.ref x, .int st, .int mv, .int ck, .int cl, .ref o]) ++ List.replicate (7 - (lg_sl ([.ref x, .int st, .int mv, .int ck, .int cl, .ref o])).length) Slot.unset).toArray = ls at hl ⊢
  replace hl : lv_has ls 7 [(0, .ref x), (1, .int st), (2, .int mv), (3, .int ck), (4, .int cl), (5, .ref o)] := hl
  have hTab := vx_table (x := yL_begin) B (hts _ List.mem_cons_self)
  subst hsz
  have hD := hD0.self (sz := s.heap.size)
  generalize hAe : va_A [(x, .inr (0, [.ref g, .ref t, .ref f, .int (nI n)])), (g, .inl (cJ, 4, .inr (.inl G))), (t, .inl (cJ, 2560, .inr (.inl T))), (f, .inl (cI, 5120, .inl F)), (o, .inl (cJ, 1, .inr (.inl O)))] s.heap.size = A at hD hX ⊢
  have hA : ∀ q : Nat, s.heap.size ≤ q → A q := fun q h => by rw [← hAe]; exact Or.inr h
  have hS : va_S A s.heap s.heap [] := va_S.rf
  refine lv_aload hx hb dL_begin_0 (lv_at hl 5 rfl) ?_
  refine lv_iconst (v := nI 0) hx hb dL_begin_2 (by decide) ?_
  refine lv_aload_n hx hb dL_begin_3 rfl (lv_at hl 0 rfl) ?_
  refine lv_iload_n hx hb dL_begin_4 rfl (lv_at hl 1 rfl) ?_
  refine lv_iload_n hx hb dL_begin_5 rfl (lv_at hl 2 rfl) ?_
  refine lv_iload_n hx hb dL_begin_6 rfl (lv_at hl 3 rfl) ?_
  refine lv_iload hx hb dL_begin_7 (lv_at hl 4 rfl) ?_
  refine th_callV (rest := [.int (nI 0), .ref o]) (ws := [(x, .inr (0, [.ref g, .ref t, .ref f, .int (nI n)])), (g, .inl (cJ, 4, .inr (.inl G))), (t, .inl (cJ, 2560, .inr (.inl T))), (f, .inl (cI, 5120, .inl F))]) (ws' := [(x, .inr (0, [.ref g, .ref t, .ref f, .int (nI (0 + 1))])), (g, .inl (cJ, 4, .inr (.inl G))), (t, .inl (cJ, 2560, .inr (.inl (ap_T G T 0)))), (f, .inl (cI, 5120, .inl (ap_F G T F 0 st mv ck cl)))]) (wrst := [(o, .inl (cJ, 1, .inr (.inl O)))]) ⟨hx, hb, hml, hown, hts⟩ (k_X0_begin l dC dI cI cJ x g t f G T F n st mv ck cl s.heap.size hn hno) (cwV 4 hts gL_begin_X0_begin rfl rfl rfl (by decide +kernel) ⟨Nat.le_of_ble_eq_true rfl, Nat.le_of_ble_eq_true rfl⟩) hK hP hD hS hA hX [0, 1, 2, 3] [4] rfl rfl (by decide) (by decide) (by decide) rfl (q0 := 0) rfl rfl hl.1 rfl (Nat.le_of_ble_eq_true rfl) dL_begin_9 ⟨Nat.le_of_ble_eq_true rfl, Nat.le_of_ble_eq_true rfl⟩ (fun E ce q9 H locs hex hP hD hS hce hcv hcl => ?_) (fun r9 H locs hr9 hP hD hS => ?_)
  · obtain ⟨rfl, hok⟩ := hex
    refine xc_catch (own := RL) (E := "java/lang/IllegalArgumentException") (h := 17) hown (by rw [hTab]; exact Or.inr ⟨by decide, by decide, "java/lang/IllegalArgumentException", hts (.classLink RL 13 "java/lang/IllegalArgumentException") (by decide +kernel), Or.inl ⟨va_Nw.use rfl hX.2.2.2.2.1, rfl⟩⟩) hce hcv hcl ?_
    replace hP : va_P (dC, dI) vwCl [(o, .inl (cJ, 1, .inr (.inl O))), (x, .inr (0, [.ref g, .ref t, .ref f, .int (nI n)])), (g, .inl (cJ, 4, .inr (.inl G))), (t, .inl (cJ, 2560, .inr (.inl T))), (f, .inl (cI, 5120, .inl F))] H := hP
    replace hD : va_D A [(o, .inl (cJ, 1, .inr (.inl O))), (x, .inr (0, [.ref g, .ref t, .ref f, .int (nI n)])), (g, .inl (cJ, 4, .inr (.inl G))), (t, .inl (cJ, 2560, .inr (.inl T))), (f, .inl (cI, 5120, .inl F))] := hD
    refine lv_astore (lv' := [(6, .ref q9), (0, .ref x), (1, .int st), (2, .int mv), (3, .int ck), (4, .int cl), (5, .ref o)]) hx hb dL_begin_17 hl (by decide) rfl (fun ls hl => ?_)
    refine lv_iconst (v := nI 1) hx hb dL_begin_19 (by decide) ?_
    refine W.widen (k := 1) (n := 6) (by omega) (by omega) ?_
    replace hP := hP.sub (ws' := [(x, .inr (0, [.ref g, .ref t, .ref f, .int (nI n)])), (g, .inl (cJ, 4, .inr (.inl G))), (t, .inl (cJ, 2560, .inr (.inl T))), (f, .inl (cI, 5120, .inl F)), (o, .inl (cJ, 1, .inr (.inl O)))]) [1, 2, 3, 4, 0] rfl
    replace hD := hD.sub (ws' := [(x, .inr (0, [.ref g, .ref t, .ref f, .int (nI n)])), (g, .inl (cJ, 4, .inr (.inl G))), (t, .inl (cJ, 2560, .inr (.inl T))), (f, .inl (cI, 5120, .inl F)), (o, .inl (cJ, 1, .inr (.inl O)))]) [1, 2, 3, 4, 0] (by decide) rfl
    exact wr_ret hx hb hr hlocks (by rw [hok]) (by rw [hok]; rfl) hP hK hD hS dL_begin_20
  · obtain ⟨hok, hr9⟩ := hr9
    replace hP : va_P (dC, dI) vwCl [(o, .inl (cJ, 1, .inr (.inl O))), (x, .inr (0, [.ref g, .ref t, .ref f, .int (nI (0 + 1))])), (g, .inl (cJ, 4, .inr (.inl G))), (t, .inl (cJ, 2560, .inr (.inl (ap_T G T 0)))), (f, .inl (cI, 5120, .inl (ap_F G T F 0 st mv ck cl)))] H := hP
    replace hD : va_D A [(o, .inl (cJ, 1, .inr (.inl O))), (x, .inr (0, [.ref g, .ref t, .ref f, .int (nI (0 + 1))])), (g, .inl (cJ, 4, .inr (.inl G))), (t, .inl (cJ, 2560, .inr (.inl (ap_T G T 0)))), (f, .inl (cI, 5120, .inl (ap_F G T F 0 st mv ck cl)))] := hD
    refine lv_is hr9 ?_
    refine lv_i2l (v := (ap_vd G T F 0 st mv ck cl).toInt64) hx hb dL_begin_12 rfl ?_
    refine ix_last hx hb hK hP hD hS 0 0 rfl rfl (show 0 < 1 by omega) (by decide) dL_begin_13 (fun H locs hP hD hS => ?_)
    replace hP : va_P (dC, dI) vwCl [(o, .inl (cJ, 1, .inr (.inl (vp_updL O 0 ((ap_vd G T F 0 st mv ck cl).toInt64))))), (x, .inr (0, [.ref g, .ref t, .ref f, .int (nI (0 + 1))])), (g, .inl (cJ, 4, .inr (.inl G))), (t, .inl (cJ, 2560, .inr (.inl (ap_T G T 0)))), (f, .inl (cI, 5120, .inl (ap_F G T F 0 st mv ck cl)))] H := hP
    replace hD : va_D A [(o, .inl (cJ, 1, .inr (.inl (vp_updL O 0 ((ap_vd G T F 0 st mv ck cl).toInt64))))), (x, .inr (0, [.ref g, .ref t, .ref f, .int (nI (0 + 1))])), (g, .inl (cJ, 4, .inr (.inl G))), (t, .inl (cJ, 2560, .inr (.inl (ap_T G T 0)))), (f, .inl (cI, 5120, .inl (ap_F G T F 0 st mv ck cl)))] := hD
    refine lv_goto (tgt := 21) hx hb dL_begin_14 (by decide) ?_
    refine lv_iconst (v := nI 0) hx hb dL_begin_21 (by decide) ?_
    refine W.widen (k := 1) (n := 6) (by omega) (by omega) ?_
    replace hP := hP.sub (ws' := [(x, .inr (0, [.ref g, .ref t, .ref f, .int (nI (0 + 1))])), (g, .inl (cJ, 4, .inr (.inl G))), (t, .inl (cJ, 2560, .inr (.inl (ap_T G T 0)))), (f, .inl (cI, 5120, .inl (ap_F G T F 0 st mv ck cl))), (o, .inl (cJ, 1, .inr (.inl (vp_updL O 0 ((ap_vd G T F 0 st mv ck cl).toInt64)))))]) [1, 2, 3, 4, 0] rfl
    replace hD := hD.sub (ws' := [(x, .inr (0, [.ref g, .ref t, .ref f, .int (nI (0 + 1))])), (g, .inl (cJ, 4, .inr (.inl G))), (t, .inl (cJ, 2560, .inr (.inl (ap_T G T 0)))), (f, .inl (cI, 5120, .inl (ap_F G T F 0 st mv ck cl))), (o, .inl (cJ, 1, .inr (.inl (vp_updL O 0 ((ap_vd G T F 0 st mv ck cl).toInt64)))))]) [1, 2, 3, 4, 0] (by decide) rfl
    exact wr_ret hx hb hr hlocks (by rw [hok]) (by rw [hok]; rfl) hP hK hD hS dL_begin_22
set_option maxHeartbeats 4000000 in
set_option maxRecDepth 100000 in
theorem k_L_next (l : Launch) (dC : Nat → ClassId) (dI : Nat → Nat → Nat) (cI cJ : ClassId) (x g t f : Nat) (G T : Nat → Int64) (F : Nat → Int32) (n : Nat) (o : Nat) (O : Nat → Int64) (st mv ck ir : Int32) (sz : Nat) (hn : n ≤ 640) {a1 a2 : Nat} (hno : l.stackTraces = false) : Met l yL_next wsL_next ({ frames := 7, cells := 1, slots := 6, locals := 146 } : Room) (th (dC, dI) [(x, .inr (0, [.ref g, .ref t, .ref f, .int (nI n)])), (g, .inl (cJ, 4, .inr (.inl G))), (t, .inl (cJ, 2560, .inr (.inl T))), (f, .inl (cI, 5120, .inl F)), (o, .inl (cJ, 1, .inr (.inl O)))] (tK cI cJ) sz 58 61 "the game takes no further position" "the state or the moves are none that there are" a1 a2 "java/lang/IllegalStateException" "java/lang/IllegalArgumentException" [.ref x, .int st, .int mv, .int ck, .int ir, .ref o]) (wrQ (dC, dI) [(x, .inr (0, [.ref g, .ref t, .ref f, .int (nI (sel (ga_okN F n st mv) (n + 1) n))])), (g, .inl (cJ, 4, .inr (.inl G))), (t, .inl (cJ, 2560, .inr (.inl (sel (ga_okN F n st mv) (ap_T G T n) T)))), (f, .inl (cI, 5120, .inl (sel (ga_okN F n st mv) (ap_F G T F n st mv ck (ga_clN F n ir)) F))), (o, .inl (cJ, 1, .inr (.inl (sel (ga_okN F n st mv) (vp_updL O 0 ((ap_vd G T F n st mv ck (ga_clN F n ir)).toInt64)) O))))] (tK cI cJ) (va_A [(x, .inr (0, [.ref g, .ref t, .ref f, .int (nI n)])), (g, .inl (cJ, 4, .inr (.inl G))), (t, .inl (cJ, 2560, .inr (.inl T))), (f, .inl (cI, 5120, .inl F)), (o, .inl (cJ, 1, .inr (.inl O)))] sz) (fun r => r = nI (ga_okN F n st mv))) 1 6 (va_A [(x, .inr (0, [.ref g, .ref t, .ref f, .int (nI n)])), (g, .inl (cJ, 4, .inr (.inl G))), (t, .inl (cJ, 2560, .inr (.inl T))), (f, .inl (cI, 5120, .inl F)), (o, .inl (cJ, 1, .inr (.inl O)))] sz) := by
  refine va_MetW (cc := cL_next) (maxL := 7) (ret := (some .int)) (hh := [(0, 14, 17, 19), (0, 14, 21, 13)]) (by decide) rfl ?_
  intro p e s m args below meth c s₁ B hml hv
  obtain ⟨rfl, hsz, hP, hK, hD0, hX⟩ := hv
  have hx := B.exec
  have hb := B.bytes
  have hr := B.returns
  have hts := atoms_spec (ws := wsL_next) B.pre
  have hown : s.vm.findClass RL = some m.cls := findClass_of_methodNamed B.named
  have hlocks := B.notSynchronized
  have hl := lv_entry ([.ref x, .int st, .int mv, .int ck, .int ir, .ref o]) (n := 7) (Nat.le_of_ble_eq_true rfl)
  rw [lg_entry_eq]
  generalize (lg_sl ([.ref x, .int st, .int mv, .int ck, .int ir, .ref o]) ++ List.replicate (7 - (lg_sl ([.ref x, .int st, .int mv, .int ck, .int ir, .ref o])).length) Slot.unset).toArray = ls at hl ⊢
  replace hl : lv_has ls 7 [(0, .ref x), (1, .int st), (2, .int mv), (3, .int ck), (4, .int ir), (5, .ref o)] := hl
  have hTab := vx_table (x := yL_next) B (hts _ List.mem_cons_self)
  subst hsz
  have hD := hD0.self (sz := s.heap.size)
  generalize hAe : va_A [(x, .inr (0, [.ref g, .ref t, .ref f, .int (nI n)])), (g, .inl (cJ, 4, .inr (.inl G))), (t, .inl (cJ, 2560, .inr (.inl T))), (f, .inl (cI, 5120, .inl F)), (o, .inl (cJ, 1, .inr (.inl O)))] s.heap.size = A at hD hX ⊢
  have hA : ∀ q : Nat, s.heap.size ≤ q → A q := fun q h => by rw [← hAe]; exact Or.inr h
  have hS : va_S A s.heap s.heap [] := va_S.rf
  refine lv_aload hx hb dL_next_0 (lv_at hl 5 rfl) ?_
  refine lv_iconst (v := nI 0) hx hb dL_next_2 (by decide) ?_
  refine lv_aload_n hx hb dL_next_3 rfl (lv_at hl 0 rfl) ?_
  refine lv_iload_n hx hb dL_next_4 rfl (lv_at hl 1 rfl) ?_
  refine lv_iload_n hx hb dL_next_5 rfl (lv_at hl 2 rfl) ?_
  refine lv_iload_n hx hb dL_next_6 rfl (lv_at hl 3 rfl) ?_
  refine lv_iload hx hb dL_next_7 (lv_at hl 4 rfl) ?_
  refine th_callV (rest := [.int (nI 0), .ref o]) (ws := [(x, .inr (0, [.ref g, .ref t, .ref f, .int (nI n)])), (g, .inl (cJ, 4, .inr (.inl G))), (t, .inl (cJ, 2560, .inr (.inl T))), (f, .inl (cI, 5120, .inl F))]) (ws' := [(x, .inr (0, [.ref g, .ref t, .ref f, .int (nI (n + 1))])), (g, .inl (cJ, 4, .inr (.inl G))), (t, .inl (cJ, 2560, .inr (.inl (ap_T G T n)))), (f, .inl (cI, 5120, .inl (ap_F G T F n st mv ck (ga_clN F n ir))))]) (wrst := [(o, .inl (cJ, 1, .inr (.inl O)))]) ⟨hx, hb, hml, hown, hts⟩ (k_X0_next l dC dI cI cJ x g t f G T F n st mv ck ir s.heap.size hn hno) (cwV 4 hts gL_next_X0_next rfl rfl rfl (by decide +kernel) ⟨Nat.le_of_ble_eq_true rfl, Nat.le_of_ble_eq_true rfl⟩) hK hP hD hS hA hX [0, 1, 2, 3] [4] rfl rfl (by decide) (by decide) (by decide) rfl (q0 := 0) rfl rfl hl.1 rfl (Nat.le_of_ble_eq_true rfl) dL_next_9 ⟨Nat.le_of_ble_eq_true rfl, Nat.le_of_ble_eq_true rfl⟩ (fun E ce q9 H locs hex hP hD hS hce hcv hcl => ?_) (fun r9 H locs hr9 hP hD hS => ?_)
  · rcases hex with ⟨rfl, hok⟩ | ⟨rfl, hok⟩
    · refine xc_catch (own := RL) (E := "java/lang/IllegalStateException") (h := 17) hown (by rw [hTab]; exact Or.inr ⟨by decide, by decide, "java/lang/IllegalStateException", hts (.classLink RL 19 "java/lang/IllegalStateException") (by decide +kernel), Or.inl ⟨va_Nw.use rfl hX.2.2.2.2.1, rfl⟩⟩) hce hcv hcl ?_
      replace hP : va_P (dC, dI) vwCl [(o, .inl (cJ, 1, .inr (.inl O))), (x, .inr (0, [.ref g, .ref t, .ref f, .int (nI n)])), (g, .inl (cJ, 4, .inr (.inl G))), (t, .inl (cJ, 2560, .inr (.inl T))), (f, .inl (cI, 5120, .inl F))] H := hP
      replace hD : va_D A [(o, .inl (cJ, 1, .inr (.inl O))), (x, .inr (0, [.ref g, .ref t, .ref f, .int (nI n)])), (g, .inl (cJ, 4, .inr (.inl G))), (t, .inl (cJ, 2560, .inr (.inl T))), (f, .inl (cI, 5120, .inl F))] := hD
      refine lv_astore (lv' := [(6, .ref q9), (0, .ref x), (1, .int st), (2, .int mv), (3, .int ck), (4, .int ir), (5, .ref o)]) hx hb dL_next_17 hl (by decide) rfl (fun ls hl => ?_)
      refine lv_iconst (v := nI 1) hx hb dL_next_19 (by decide) ?_
      refine W.widen (k := 1) (n := 6) (by omega) (by omega) ?_
      replace hP := hP.sub (ws' := [(x, .inr (0, [.ref g, .ref t, .ref f, .int (nI n)])), (g, .inl (cJ, 4, .inr (.inl G))), (t, .inl (cJ, 2560, .inr (.inl T))), (f, .inl (cI, 5120, .inl F)), (o, .inl (cJ, 1, .inr (.inl O)))]) [1, 2, 3, 4, 0] rfl
      replace hD := hD.sub (ws' := [(x, .inr (0, [.ref g, .ref t, .ref f, .int (nI n)])), (g, .inl (cJ, 4, .inr (.inl G))), (t, .inl (cJ, 2560, .inr (.inl T))), (f, .inl (cI, 5120, .inl F)), (o, .inl (cJ, 1, .inr (.inl O)))]) [1, 2, 3, 4, 0] (by decide) rfl
      exact wr_ret hx hb hr hlocks (by rw [hok]) (by rw [hok]; rfl) hP hK hD hS dL_next_20
    · refine xc_catch (own := RL) (E := "java/lang/IllegalArgumentException") (h := 21) hown (by rw [hTab]; exact Or.inr ⟨by decide, by decide, "java/lang/IllegalStateException", hts (.classLink RL 19 "java/lang/IllegalStateException") (by decide +kernel), Or.inr ⟨hX.2.2.2.2.2.2.2.2.2.resolve_left (by decide), Or.inr ⟨by decide, by decide, "java/lang/IllegalArgumentException", hts (.classLink RL 13 "java/lang/IllegalArgumentException") (by decide +kernel), Or.inl ⟨va_Nw.use rfl hX.2.2.2.2.2.1, rfl⟩⟩⟩⟩) hce hcv hcl ?_
      replace hP : va_P (dC, dI) vwCl [(o, .inl (cJ, 1, .inr (.inl O))), (x, .inr (0, [.ref g, .ref t, .ref f, .int (nI n)])), (g, .inl (cJ, 4, .inr (.inl G))), (t, .inl (cJ, 2560, .inr (.inl T))), (f, .inl (cI, 5120, .inl F))] H := hP
      replace hD : va_D A [(o, .inl (cJ, 1, .inr (.inl O))), (x, .inr (0, [.ref g, .ref t, .ref f, .int (nI n)])), (g, .inl (cJ, 4, .inr (.inl G))), (t, .inl (cJ, 2560, .inr (.inl T))), (f, .inl (cI, 5120, .inl F))] := hD
      refine lv_astore (lv' := [(6, .ref q9), (0, .ref x), (1, .int st), (2, .int mv), (3, .int ck), (4, .int ir), (5, .ref o)]) hx hb dL_next_21 hl (by decide) rfl (fun ls hl => ?_)
      refine lv_iconst (v := nI 2) hx hb dL_next_23 (by decide) ?_
      refine W.widen (k := 1) (n := 6) (by omega) (by omega) ?_
      replace hP := hP.sub (ws' := [(x, .inr (0, [.ref g, .ref t, .ref f, .int (nI n)])), (g, .inl (cJ, 4, .inr (.inl G))), (t, .inl (cJ, 2560, .inr (.inl T))), (f, .inl (cI, 5120, .inl F)), (o, .inl (cJ, 1, .inr (.inl O)))]) [1, 2, 3, 4, 0] rfl
      replace hD := hD.sub (ws' := [(x, .inr (0, [.ref g, .ref t, .ref f, .int (nI n)])), (g, .inl (cJ, 4, .inr (.inl G))), (t, .inl (cJ, 2560, .inr (.inl T))), (f, .inl (cI, 5120, .inl F)), (o, .inl (cJ, 1, .inr (.inl O)))]) [1, 2, 3, 4, 0] (by decide) rfl
      exact wr_ret hx hb hr hlocks (by rw [hok]) (by rw [hok]; rfl) hP hK hD hS dL_next_24
  · obtain ⟨hok, hr9⟩ := hr9
    replace hP : va_P (dC, dI) vwCl [(o, .inl (cJ, 1, .inr (.inl O))), (x, .inr (0, [.ref g, .ref t, .ref f, .int (nI (n + 1))])), (g, .inl (cJ, 4, .inr (.inl G))), (t, .inl (cJ, 2560, .inr (.inl (ap_T G T n)))), (f, .inl (cI, 5120, .inl (ap_F G T F n st mv ck (ga_clN F n ir))))] H := hP
    replace hD : va_D A [(o, .inl (cJ, 1, .inr (.inl O))), (x, .inr (0, [.ref g, .ref t, .ref f, .int (nI (n + 1))])), (g, .inl (cJ, 4, .inr (.inl G))), (t, .inl (cJ, 2560, .inr (.inl (ap_T G T n)))), (f, .inl (cI, 5120, .inl (ap_F G T F n st mv ck (ga_clN F n ir))))] := hD
    refine lv_is hr9 ?_
    refine lv_i2l (v := (ap_vd G T F n st mv ck (ga_clN F n ir)).toInt64) hx hb dL_next_12 rfl ?_
    refine ix_last hx hb hK hP hD hS 0 0 rfl rfl (show 0 < 1 by omega) (by decide) dL_next_13 (fun H locs hP hD hS => ?_)
    replace hP : va_P (dC, dI) vwCl [(o, .inl (cJ, 1, .inr (.inl (vp_updL O 0 ((ap_vd G T F n st mv ck (ga_clN F n ir)).toInt64))))), (x, .inr (0, [.ref g, .ref t, .ref f, .int (nI (n + 1))])), (g, .inl (cJ, 4, .inr (.inl G))), (t, .inl (cJ, 2560, .inr (.inl (ap_T G T n)))), (f, .inl (cI, 5120, .inl (ap_F G T F n st mv ck (ga_clN F n ir))))] H := hP
    replace hD : va_D A [(o, .inl (cJ, 1, .inr (.inl (vp_updL O 0 ((ap_vd G T F n st mv ck (ga_clN F n ir)).toInt64))))), (x, .inr (0, [.ref g, .ref t, .ref f, .int (nI (n + 1))])), (g, .inl (cJ, 4, .inr (.inl G))), (t, .inl (cJ, 2560, .inr (.inl (ap_T G T n)))), (f, .inl (cI, 5120, .inl (ap_F G T F n st mv ck (ga_clN F n ir))))] := hD
    refine lv_goto (tgt := 25) hx hb dL_next_14 (by decide) ?_
    refine lv_iconst (v := nI 0) hx hb dL_next_25 (by decide) ?_
    refine W.widen (k := 1) (n := 6) (by omega) (by omega) ?_
    replace hP := hP.sub (ws' := [(x, .inr (0, [.ref g, .ref t, .ref f, .int (nI (n + 1))])), (g, .inl (cJ, 4, .inr (.inl G))), (t, .inl (cJ, 2560, .inr (.inl (ap_T G T n)))), (f, .inl (cI, 5120, .inl (ap_F G T F n st mv ck (ga_clN F n ir)))), (o, .inl (cJ, 1, .inr (.inl (vp_updL O 0 ((ap_vd G T F n st mv ck (ga_clN F n ir)).toInt64)))))]) [1, 2, 3, 4, 0] rfl
    replace hD := hD.sub (ws' := [(x, .inr (0, [.ref g, .ref t, .ref f, .int (nI (n + 1))])), (g, .inl (cJ, 4, .inr (.inl G))), (t, .inl (cJ, 2560, .inr (.inl (ap_T G T n)))), (f, .inl (cI, 5120, .inl (ap_F G T F n st mv ck (ga_clN F n ir)))), (o, .inl (cJ, 1, .inr (.inl (vp_updL O 0 ((ap_vd G T F n st mv ck (ga_clN F n ir)).toInt64)))))]) [1, 2, 3, 4, 0] (by decide) rfl
    exact wr_ret hx hb hr hlocks (by rw [hok]) (by rw [hok]; rfl) hP hK hD hS dL_next_26
set_option maxHeartbeats 4000000 in
set_option maxRecDepth 100000 in
theorem k_L_of (l : Launch) (dC : Nat → ClassId) (dI : Nat → Nat → Nat) (cI cJ : ClassId) (x g t f : Nat) (G T : Nat → Int64) (F : Nat → Int32) (n : Nat) (o : Nat) (O : Nat → Int64) (i w : Int32) (sz : Nat) (hn : n ≤ 640) {a1 a2 : Nat} (hno : l.stackTraces = false) : Met l yL_of wsL_of ({ frames := 7, cells := 1, slots := 6, locals := 122 } : Room) (th (dC, dI) [(x, .inr (0, [.ref g, .ref t, .ref f, .int (nI n)])), (g, .inl (cJ, 4, .inr (.inl G))), (t, .inl (cJ, 2560, .inr (.inl T))), (f, .inl (cI, 5120, .inl F)), (o, .inl (cJ, 1, .inr (.inl O)))] (tK cI cJ) sz 72 72 "no such position, or no such fact of it" "no such position, or no such fact of it" a1 a2 "java/lang/IndexOutOfBoundsException" "java/lang/IndexOutOfBoundsException" [.ref x, .int i, .int w, .ref o]) (wrQ (dC, dI) [(x, .inr (0, [.ref g, .ref t, .ref f, .int (nI n)])), (g, .inl (cJ, 4, .inr (.inl G))), (t, .inl (cJ, 2560, .inr (.inl T))), (f, .inl (cI, 5120, .inl F)), (o, .inl (cJ, 1, .inr (.inl (sel (ga_okO n i w) (vp_updL O 0 ((F (i.toNatClampNeg * 8 + w.toNatClampNeg)).toInt64)) O))))] (tK cI cJ) (va_A [(x, .inr (0, [.ref g, .ref t, .ref f, .int (nI n)])), (g, .inl (cJ, 4, .inr (.inl G))), (t, .inl (cJ, 2560, .inr (.inl T))), (f, .inl (cI, 5120, .inl F)), (o, .inl (cJ, 1, .inr (.inl O)))] sz) (fun r => r = nI (ga_okO n i w))) 1 6 (va_A [(x, .inr (0, [.ref g, .ref t, .ref f, .int (nI n)])), (g, .inl (cJ, 4, .inr (.inl G))), (t, .inl (cJ, 2560, .inr (.inl T))), (f, .inl (cI, 5120, .inl F)), (o, .inl (cJ, 1, .inr (.inl O)))] sz) := by
  refine va_MetW (cc := cL_of) (maxL := 5) (ret := (some .int)) (hh := [(0, 10, 13, 25)]) (by decide) rfl ?_
  intro p e s m args below meth c s₁ B hml hv
  obtain ⟨rfl, hsz, hP, hK, hD0, hX⟩ := hv
  have hx := B.exec
  have hb := B.bytes
  have hr := B.returns
  have hts := atoms_spec (ws := wsL_of) B.pre
  have hown : s.vm.findClass RL = some m.cls := findClass_of_methodNamed B.named
  have hlocks := B.notSynchronized
  have hl := lv_entry ([.ref x, .int i, .int w, .ref o]) (n := 5) (Nat.le_of_ble_eq_true rfl)
  rw [lg_entry_eq]
  generalize (lg_sl ([.ref x, .int i, .int w, .ref o]) ++ List.replicate (5 - (lg_sl ([.ref x, .int i, .int w, .ref o])).length) Slot.unset).toArray = ls at hl ⊢
  replace hl : lv_has ls 5 [(0, .ref x), (1, .int i), (2, .int w), (3, .ref o)] := hl
  have hTab := vx_table (x := yL_of) B (hts _ List.mem_cons_self)
  subst hsz
  have hD := hD0.self (sz := s.heap.size)
  generalize hAe : va_A [(x, .inr (0, [.ref g, .ref t, .ref f, .int (nI n)])), (g, .inl (cJ, 4, .inr (.inl G))), (t, .inl (cJ, 2560, .inr (.inl T))), (f, .inl (cI, 5120, .inl F)), (o, .inl (cJ, 1, .inr (.inl O)))] s.heap.size = A at hD hX ⊢
  have hA : ∀ q : Nat, s.heap.size ≤ q → A q := fun q h => by rw [← hAe]; exact Or.inr h
  have hS : va_S A s.heap s.heap [] := va_S.rf
  refine lv_aload_n hx hb dL_of_0 rfl (lv_at hl 3 rfl) ?_
  refine lv_iconst (v := nI 0) hx hb dL_of_1 (by decide) ?_
  refine lv_aload_n hx hb dL_of_2 rfl (lv_at hl 0 rfl) ?_
  refine lv_iload_n hx hb dL_of_3 rfl (lv_at hl 1 rfl) ?_
  refine lv_iload_n hx hb dL_of_4 rfl (lv_at hl 2 rfl) ?_
  refine th_callV (rest := [.int (nI 0), .ref o]) (ws := [(x, .inr (0, [.ref g, .ref t, .ref f, .int (nI n)])), (g, .inl (cJ, 4, .inr (.inl G))), (t, .inl (cJ, 2560, .inr (.inl T))), (f, .inl (cI, 5120, .inl F))]) (ws' := [(x, .inr (0, [.ref g, .ref t, .ref f, .int (nI n)])), (g, .inl (cJ, 4, .inr (.inl G))), (t, .inl (cJ, 2560, .inr (.inl T))), (f, .inl (cI, 5120, .inl F))]) (wrst := [(o, .inl (cJ, 1, .inr (.inl O)))]) ⟨hx, hb, hml, hown, hts⟩ (k_X0_of l dC dI cI cJ x g t f G T F n i w s.heap.size hn hno) (cwV 2 hts gL_of_X0_of rfl rfl rfl (by decide +kernel) ⟨Nat.le_of_ble_eq_true rfl, Nat.le_of_ble_eq_true rfl⟩) hK hP hD hS hA hX [0, 1, 2, 3] [4] rfl rfl (by decide) (by decide) (by decide) rfl (q0 := 0) rfl rfl hl.1 rfl (Nat.le_of_ble_eq_true rfl) dL_of_5 ⟨Nat.le_of_ble_eq_true rfl, Nat.le_of_ble_eq_true rfl⟩ (fun E ce q9 H locs hex hP hD hS hce hcv hcl => ?_) (fun r9 H locs hr9 hP hD hS => ?_)
  · obtain ⟨rfl, hok⟩ := hex
    refine xc_catch (own := RL) (E := "java/lang/IndexOutOfBoundsException") (h := 13) hown (by rw [hTab]; exact Or.inr ⟨by decide, by decide, "java/lang/IndexOutOfBoundsException", hts (.classLink RL 25 "java/lang/IndexOutOfBoundsException") (by decide +kernel), Or.inl ⟨va_Nw.use rfl hX.2.2.2.2.1, rfl⟩⟩) hce hcv hcl ?_
    replace hP : va_P (dC, dI) vwCl [(o, .inl (cJ, 1, .inr (.inl O))), (x, .inr (0, [.ref g, .ref t, .ref f, .int (nI n)])), (g, .inl (cJ, 4, .inr (.inl G))), (t, .inl (cJ, 2560, .inr (.inl T))), (f, .inl (cI, 5120, .inl F))] H := hP
    replace hD : va_D A [(o, .inl (cJ, 1, .inr (.inl O))), (x, .inr (0, [.ref g, .ref t, .ref f, .int (nI n)])), (g, .inl (cJ, 4, .inr (.inl G))), (t, .inl (cJ, 2560, .inr (.inl T))), (f, .inl (cI, 5120, .inl F))] := hD
    refine lv_astore (lv' := [(4, .ref q9), (0, .ref x), (1, .int i), (2, .int w), (3, .ref o)]) hx hb dL_of_13 hl (by decide) rfl (fun ls hl => ?_)
    refine lv_iconst (v := nI 1) hx hb dL_of_15 (by decide) ?_
    refine W.widen (k := 1) (n := 6) (by omega) (by omega) ?_
    replace hP := hP.sub (ws' := [(x, .inr (0, [.ref g, .ref t, .ref f, .int (nI n)])), (g, .inl (cJ, 4, .inr (.inl G))), (t, .inl (cJ, 2560, .inr (.inl T))), (f, .inl (cI, 5120, .inl F)), (o, .inl (cJ, 1, .inr (.inl O)))]) [1, 2, 3, 4, 0] rfl
    replace hD := hD.sub (ws' := [(x, .inr (0, [.ref g, .ref t, .ref f, .int (nI n)])), (g, .inl (cJ, 4, .inr (.inl G))), (t, .inl (cJ, 2560, .inr (.inl T))), (f, .inl (cI, 5120, .inl F)), (o, .inl (cJ, 1, .inr (.inl O)))]) [1, 2, 3, 4, 0] (by decide) rfl
    exact wr_ret hx hb hr hlocks (by rw [hok]) (by rw [hok]; rfl) hP hK hD hS dL_of_16
  · obtain ⟨hok, hr9⟩ := hr9
    replace hP : va_P (dC, dI) vwCl [(o, .inl (cJ, 1, .inr (.inl O))), (x, .inr (0, [.ref g, .ref t, .ref f, .int (nI n)])), (g, .inl (cJ, 4, .inr (.inl G))), (t, .inl (cJ, 2560, .inr (.inl T))), (f, .inl (cI, 5120, .inl F))] H := hP
    replace hD : va_D A [(o, .inl (cJ, 1, .inr (.inl O))), (x, .inr (0, [.ref g, .ref t, .ref f, .int (nI n)])), (g, .inl (cJ, 4, .inr (.inl G))), (t, .inl (cJ, 2560, .inr (.inl T))), (f, .inl (cI, 5120, .inl F))] := hD
    refine lv_is hr9 ?_
    refine lv_i2l (v := (F (i.toNatClampNeg * 8 + w.toNatClampNeg)).toInt64) hx hb dL_of_8 rfl ?_
    refine ix_last hx hb hK hP hD hS 0 0 rfl rfl (show 0 < 1 by omega) (by decide) dL_of_9 (fun H locs hP hD hS => ?_)
    replace hP : va_P (dC, dI) vwCl [(o, .inl (cJ, 1, .inr (.inl (vp_updL O 0 ((F (i.toNatClampNeg * 8 + w.toNatClampNeg)).toInt64))))), (x, .inr (0, [.ref g, .ref t, .ref f, .int (nI n)])), (g, .inl (cJ, 4, .inr (.inl G))), (t, .inl (cJ, 2560, .inr (.inl T))), (f, .inl (cI, 5120, .inl F))] H := hP
    replace hD : va_D A [(o, .inl (cJ, 1, .inr (.inl (vp_updL O 0 ((F (i.toNatClampNeg * 8 + w.toNatClampNeg)).toInt64))))), (x, .inr (0, [.ref g, .ref t, .ref f, .int (nI n)])), (g, .inl (cJ, 4, .inr (.inl G))), (t, .inl (cJ, 2560, .inr (.inl T))), (f, .inl (cI, 5120, .inl F))] := hD
    refine lv_goto (tgt := 17) hx hb dL_of_10 (by decide) ?_
    refine lv_iconst (v := nI 0) hx hb dL_of_17 (by decide) ?_
    refine W.widen (k := 1) (n := 6) (by omega) (by omega) ?_
    replace hP := hP.sub (ws' := [(x, .inr (0, [.ref g, .ref t, .ref f, .int (nI n)])), (g, .inl (cJ, 4, .inr (.inl G))), (t, .inl (cJ, 2560, .inr (.inl T))), (f, .inl (cI, 5120, .inl F)), (o, .inl (cJ, 1, .inr (.inl (vp_updL O 0 ((F (i.toNatClampNeg * 8 + w.toNatClampNeg)).toInt64)))))]) [1, 2, 3, 4, 0] rfl
    replace hD := hD.sub (ws' := [(x, .inr (0, [.ref g, .ref t, .ref f, .int (nI n)])), (g, .inl (cJ, 4, .inr (.inl G))), (t, .inl (cJ, 2560, .inr (.inl T))), (f, .inl (cI, 5120, .inl F)), (o, .inl (cJ, 1, .inr (.inl (vp_updL O 0 ((F (i.toNatClampNeg * 8 + w.toNatClampNeg)).toInt64)))))]) [1, 2, 3, 4, 0] (by decide) rfl
    exact wr_ret hx hb hr hlocks (by rw [hok]) (by rw [hok]; rfl) hP hK hD hS dL_of_18
set_option maxHeartbeats 4000000 in
set_option maxRecDepth 100000 in
theorem k_L_men (l : Launch) (dC : Nat → ClassId) (dI : Nat → Nat → Nat) (cI cJ : ClassId) (x g t f : Nat) (G T : Nat → Int64) (F : Nat → Int32) (n : Nat) (o : Nat) (O : Nat → Int64) (i q : Int32) (sz : Nat) (hn : n ≤ 640) {a1 a2 : Nat} (hno : l.stackTraces = false) : Met l yL_men wsL_men ({ frames := 7, cells := 1, slots := 6, locals := 122 } : Room) (th (dC, dI) [(x, .inr (0, [.ref g, .ref t, .ref f, .int (nI n)])), (g, .inl (cJ, 4, .inr (.inl G))), (t, .inl (cJ, 2560, .inr (.inl T))), (f, .inl (cI, 5120, .inl F)), (o, .inl (cJ, 1, .inr (.inl O)))] (tK cI cJ) sz 75 75 "no such position, or no such part of it" "no such position, or no such part of it" a1 a2 "java/lang/IndexOutOfBoundsException" "java/lang/IndexOutOfBoundsException" [.ref x, .int i, .int q, .ref o]) (wrQ (dC, dI) [(x, .inr (0, [.ref g, .ref t, .ref f, .int (nI n)])), (g, .inl (cJ, 4, .inr (.inl G))), (t, .inl (cJ, 2560, .inr (.inl T))), (f, .inl (cI, 5120, .inl F)), (o, .inl (cJ, 1, .inr (.inl (sel (ga_okM n i q) (vp_updL O 0 (T (i.toNatClampNeg * 4 + q.toNatClampNeg))) O))))] (tK cI cJ) (va_A [(x, .inr (0, [.ref g, .ref t, .ref f, .int (nI n)])), (g, .inl (cJ, 4, .inr (.inl G))), (t, .inl (cJ, 2560, .inr (.inl T))), (f, .inl (cI, 5120, .inl F)), (o, .inl (cJ, 1, .inr (.inl O)))] sz) (fun r => r = nI (ga_okM n i q))) 1 6 (va_A [(x, .inr (0, [.ref g, .ref t, .ref f, .int (nI n)])), (g, .inl (cJ, 4, .inr (.inl G))), (t, .inl (cJ, 2560, .inr (.inl T))), (f, .inl (cI, 5120, .inl F)), (o, .inl (cJ, 1, .inr (.inl O)))] sz) := by
  refine va_MetW (cc := cL_men) (maxL := 5) (ret := (some .int)) (hh := [(0, 9, 12, 25)]) (by decide) rfl ?_
  intro p e s m args below meth c s₁ B hml hv
  obtain ⟨rfl, hsz, hP, hK, hD0, hX⟩ := hv
  have hx := B.exec
  have hb := B.bytes
  have hr := B.returns
  have hts := atoms_spec (ws := wsL_men) B.pre
  have hown : s.vm.findClass RL = some m.cls := findClass_of_methodNamed B.named
  have hlocks := B.notSynchronized
  have hl := lv_entry ([.ref x, .int i, .int q, .ref o]) (n := 5) (Nat.le_of_ble_eq_true rfl)
  rw [lg_entry_eq]
  generalize (lg_sl ([.ref x, .int i, .int q, .ref o]) ++ List.replicate (5 - (lg_sl ([.ref x, .int i, .int q, .ref o])).length) Slot.unset).toArray = ls at hl ⊢
  replace hl : lv_has ls 5 [(0, .ref x), (1, .int i), (2, .int q), (3, .ref o)] := hl
  have hTab := vx_table (x := yL_men) B (hts _ List.mem_cons_self)
  subst hsz
  have hD := hD0.self (sz := s.heap.size)
  generalize hAe : va_A [(x, .inr (0, [.ref g, .ref t, .ref f, .int (nI n)])), (g, .inl (cJ, 4, .inr (.inl G))), (t, .inl (cJ, 2560, .inr (.inl T))), (f, .inl (cI, 5120, .inl F)), (o, .inl (cJ, 1, .inr (.inl O)))] s.heap.size = A at hD hX ⊢
  have hA : ∀ q : Nat, s.heap.size ≤ q → A q := fun q h => by rw [← hAe]; exact Or.inr h
  have hS : va_S A s.heap s.heap [] := va_S.rf
  refine lv_aload_n hx hb dL_men_0 rfl (lv_at hl 3 rfl) ?_
  refine lv_iconst (v := nI 0) hx hb dL_men_1 (by decide) ?_
  refine lv_aload_n hx hb dL_men_2 rfl (lv_at hl 0 rfl) ?_
  refine lv_iload_n hx hb dL_men_3 rfl (lv_at hl 1 rfl) ?_
  refine lv_iload_n hx hb dL_men_4 rfl (lv_at hl 2 rfl) ?_
  refine th_callVl (rest := [.int (nI 0), .ref o]) (ws := [(x, .inr (0, [.ref g, .ref t, .ref f, .int (nI n)])), (g, .inl (cJ, 4, .inr (.inl G))), (t, .inl (cJ, 2560, .inr (.inl T))), (f, .inl (cI, 5120, .inl F))]) (ws' := [(x, .inr (0, [.ref g, .ref t, .ref f, .int (nI n)])), (g, .inl (cJ, 4, .inr (.inl G))), (t, .inl (cJ, 2560, .inr (.inl T))), (f, .inl (cI, 5120, .inl F))]) (wrst := [(o, .inl (cJ, 1, .inr (.inl O)))]) ⟨hx, hb, hml, hown, hts⟩ (k_X0_men l dC dI cI cJ x g t f G T F n i q s.heap.size hn hno) (cwV 2 hts gL_men_X0_men rfl rfl rfl (by decide +kernel) ⟨Nat.le_of_ble_eq_true rfl, Nat.le_of_ble_eq_true rfl⟩) hK hP hD hS hA hX [0, 1, 2, 3] [4] rfl rfl (by decide) (by decide) (by decide) rfl (q0 := 0) rfl rfl hl.1 rfl (Nat.le_of_ble_eq_true rfl) dL_men_5 ⟨Nat.le_of_ble_eq_true rfl, Nat.le_of_ble_eq_true rfl⟩ (fun E ce q9 H locs hex hP hD hS hce hcv hcl => ?_) (fun r9 H locs hr9 hP hD hS => ?_)
  · obtain ⟨rfl, hok⟩ := hex
    refine xc_catch (own := RL) (E := "java/lang/IndexOutOfBoundsException") (h := 12) hown (by rw [hTab]; exact Or.inr ⟨by decide, by decide, "java/lang/IndexOutOfBoundsException", hts (.classLink RL 25 "java/lang/IndexOutOfBoundsException") (by decide +kernel), Or.inl ⟨va_Nw.use rfl hX.2.2.2.2.1, rfl⟩⟩) hce hcv hcl ?_
    replace hP : va_P (dC, dI) vwCl [(o, .inl (cJ, 1, .inr (.inl O))), (x, .inr (0, [.ref g, .ref t, .ref f, .int (nI n)])), (g, .inl (cJ, 4, .inr (.inl G))), (t, .inl (cJ, 2560, .inr (.inl T))), (f, .inl (cI, 5120, .inl F))] H := hP
    replace hD : va_D A [(o, .inl (cJ, 1, .inr (.inl O))), (x, .inr (0, [.ref g, .ref t, .ref f, .int (nI n)])), (g, .inl (cJ, 4, .inr (.inl G))), (t, .inl (cJ, 2560, .inr (.inl T))), (f, .inl (cI, 5120, .inl F))] := hD
    refine lv_astore (lv' := [(4, .ref q9), (0, .ref x), (1, .int i), (2, .int q), (3, .ref o)]) hx hb dL_men_12 hl (by decide) rfl (fun ls hl => ?_)
    refine lv_iconst (v := nI 1) hx hb dL_men_14 (by decide) ?_
    refine W.widen (k := 1) (n := 6) (by omega) (by omega) ?_
    replace hP := hP.sub (ws' := [(x, .inr (0, [.ref g, .ref t, .ref f, .int (nI n)])), (g, .inl (cJ, 4, .inr (.inl G))), (t, .inl (cJ, 2560, .inr (.inl T))), (f, .inl (cI, 5120, .inl F)), (o, .inl (cJ, 1, .inr (.inl O)))]) [1, 2, 3, 4, 0] rfl
    replace hD := hD.sub (ws' := [(x, .inr (0, [.ref g, .ref t, .ref f, .int (nI n)])), (g, .inl (cJ, 4, .inr (.inl G))), (t, .inl (cJ, 2560, .inr (.inl T))), (f, .inl (cI, 5120, .inl F)), (o, .inl (cJ, 1, .inr (.inl O)))]) [1, 2, 3, 4, 0] (by decide) rfl
    exact wr_ret hx hb hr hlocks (by rw [hok]) (by rw [hok]; rfl) hP hK hD hS dL_men_15
  · obtain ⟨hok, hr9⟩ := hr9
    replace hP : va_P (dC, dI) vwCl [(o, .inl (cJ, 1, .inr (.inl O))), (x, .inr (0, [.ref g, .ref t, .ref f, .int (nI n)])), (g, .inl (cJ, 4, .inr (.inl G))), (t, .inl (cJ, 2560, .inr (.inl T))), (f, .inl (cI, 5120, .inl F))] H := hP
    replace hD : va_D A [(o, .inl (cJ, 1, .inr (.inl O))), (x, .inr (0, [.ref g, .ref t, .ref f, .int (nI n)])), (g, .inl (cJ, 4, .inr (.inl G))), (t, .inl (cJ, 2560, .inr (.inl T))), (f, .inl (cI, 5120, .inl F))] := hD
    refine lv_isl hr9 ?_
    refine ix_last hx hb hK hP hD hS 0 0 rfl rfl (show 0 < 1 by omega) (by decide) dL_men_8 (fun H locs hP hD hS => ?_)
    replace hP : va_P (dC, dI) vwCl [(o, .inl (cJ, 1, .inr (.inl (vp_updL O 0 (T (i.toNatClampNeg * 4 + q.toNatClampNeg)))))), (x, .inr (0, [.ref g, .ref t, .ref f, .int (nI n)])), (g, .inl (cJ, 4, .inr (.inl G))), (t, .inl (cJ, 2560, .inr (.inl T))), (f, .inl (cI, 5120, .inl F))] H := hP
    replace hD : va_D A [(o, .inl (cJ, 1, .inr (.inl (vp_updL O 0 (T (i.toNatClampNeg * 4 + q.toNatClampNeg)))))), (x, .inr (0, [.ref g, .ref t, .ref f, .int (nI n)])), (g, .inl (cJ, 4, .inr (.inl G))), (t, .inl (cJ, 2560, .inr (.inl T))), (f, .inl (cI, 5120, .inl F))] := hD
    refine lv_goto (tgt := 16) hx hb dL_men_9 (by decide) ?_
    refine lv_iconst (v := nI 0) hx hb dL_men_16 (by decide) ?_
    refine W.widen (k := 1) (n := 6) (by omega) (by omega) ?_
    replace hP := hP.sub (ws' := [(x, .inr (0, [.ref g, .ref t, .ref f, .int (nI n)])), (g, .inl (cJ, 4, .inr (.inl G))), (t, .inl (cJ, 2560, .inr (.inl T))), (f, .inl (cI, 5120, .inl F)), (o, .inl (cJ, 1, .inr (.inl (vp_updL O 0 (T (i.toNatClampNeg * 4 + q.toNatClampNeg))))))]) [1, 2, 3, 4, 0] rfl
    replace hD := hD.sub (ws' := [(x, .inr (0, [.ref g, .ref t, .ref f, .int (nI n)])), (g, .inl (cJ, 4, .inr (.inl G))), (t, .inl (cJ, 2560, .inr (.inl T))), (f, .inl (cI, 5120, .inl F)), (o, .inl (cJ, 1, .inr (.inl (vp_updL O 0 (T (i.toNatClampNeg * 4 + q.toNatClampNeg))))))]) [1, 2, 3, 4, 0] (by decide) rfl
    exact wr_ret hx hb hr hlocks (by rw [hok]) (by rw [hok]; rfl) hP hK hD hS dL_men_17
set_option maxHeartbeats 4000000 in
set_option maxRecDepth 100000 in
theorem k_L_times (l : Launch) (dC : Nat → ClassId) (dI : Nat → Nat → Nat) (cI cJ : ClassId) (x g t f : Nat) (G T : Nat → Int64) (F : Nat → Int32) (n : Nat) (o : Nat) (O : Nat → Int64) (q : Int32) (sz : Nat) (hn : n ≤ 640) {a1 a2 : Nat} (hno : l.stackTraces = false) : Met l yL_times wsL_times ({ frames := 7, cells := 1, slots := 6, locals := 121 } : Room) (th (dC, dI) [(x, .inr (0, [.ref g, .ref t, .ref f, .int (nI n)])), (g, .inl (cJ, 4, .inr (.inl G))), (t, .inl (cJ, 2560, .inr (.inl T))), (f, .inl (cI, 5120, .inl F)), (o, .inl (cJ, 1, .inr (.inl O)))] (tK cI cJ) sz 77 77 "the state is none that there is" "the state is none that there is" a1 a2 "java/lang/IllegalArgumentException" "java/lang/IllegalArgumentException" [.ref x, .int q, .ref o]) (wrQ (dC, dI) [(x, .inr (0, [.ref g, .ref t, .ref f, .int (nI n)])), (g, .inl (cJ, 4, .inr (.inl G))), (t, .inl (cJ, 2560, .inr (.inl T))), (f, .inl (cI, 5120, .inl F)), (o, .inl (cJ, 1, .inr (.inl (sel (ga_okT q) (vp_updL O 0 ((ga_cup F n (ga_last G T F q n)).toInt64)) O))))] (tK cI cJ) (va_A [(x, .inr (0, [.ref g, .ref t, .ref f, .int (nI n)])), (g, .inl (cJ, 4, .inr (.inl G))), (t, .inl (cJ, 2560, .inr (.inl T))), (f, .inl (cI, 5120, .inl F)), (o, .inl (cJ, 1, .inr (.inl O)))] sz) (fun r => r = nI (ga_okT q))) 1 6 (va_A [(x, .inr (0, [.ref g, .ref t, .ref f, .int (nI n)])), (g, .inl (cJ, 4, .inr (.inl G))), (t, .inl (cJ, 2560, .inr (.inl T))), (f, .inl (cI, 5120, .inl F)), (o, .inl (cJ, 1, .inr (.inl O)))] sz) := by
  refine va_MetW (cc := cL_times) (maxL := 4) (ret := (some .int)) (hh := [(0, 9, 12, 13)]) (by decide) rfl ?_
  intro p e s m args below meth c s₁ B hml hv
  obtain ⟨rfl, hsz, hP, hK, hD0, hX⟩ := hv
  have hx := B.exec
  have hb := B.bytes
  have hr := B.returns
  have hts := atoms_spec (ws := wsL_times) B.pre
  have hown : s.vm.findClass RL = some m.cls := findClass_of_methodNamed B.named
  have hlocks := B.notSynchronized
  have hl := lv_entry ([.ref x, .int q, .ref o]) (n := 4) (Nat.le_of_ble_eq_true rfl)
  rw [lg_entry_eq]
  generalize (lg_sl ([.ref x, .int q, .ref o]) ++ List.replicate (4 - (lg_sl ([.ref x, .int q, .ref o])).length) Slot.unset).toArray = ls at hl ⊢
  replace hl : lv_has ls 4 [(0, .ref x), (1, .int q), (2, .ref o)] := hl
  have hTab := vx_table (x := yL_times) B (hts _ List.mem_cons_self)
  subst hsz
  have hD := hD0.self (sz := s.heap.size)
  generalize hAe : va_A [(x, .inr (0, [.ref g, .ref t, .ref f, .int (nI n)])), (g, .inl (cJ, 4, .inr (.inl G))), (t, .inl (cJ, 2560, .inr (.inl T))), (f, .inl (cI, 5120, .inl F)), (o, .inl (cJ, 1, .inr (.inl O)))] s.heap.size = A at hD hX ⊢
  have hA : ∀ q : Nat, s.heap.size ≤ q → A q := fun q h => by rw [← hAe]; exact Or.inr h
  have hS : va_S A s.heap s.heap [] := va_S.rf
  refine lv_aload_n hx hb dL_times_0 rfl (lv_at hl 2 rfl) ?_
  refine lv_iconst (v := nI 0) hx hb dL_times_1 (by decide) ?_
  refine lv_aload_n hx hb dL_times_2 rfl (lv_at hl 0 rfl) ?_
  refine lv_iload_n hx hb dL_times_3 rfl (lv_at hl 1 rfl) ?_
  refine th_callV (rest := [.int (nI 0), .ref o]) (ws := [(x, .inr (0, [.ref g, .ref t, .ref f, .int (nI n)])), (g, .inl (cJ, 4, .inr (.inl G))), (t, .inl (cJ, 2560, .inr (.inl T))), (f, .inl (cI, 5120, .inl F))]) (ws' := [(x, .inr (0, [.ref g, .ref t, .ref f, .int (nI n)])), (g, .inl (cJ, 4, .inr (.inl G))), (t, .inl (cJ, 2560, .inr (.inl T))), (f, .inl (cI, 5120, .inl F))]) (wrst := [(o, .inl (cJ, 1, .inr (.inl O)))]) ⟨hx, hb, hml, hown, hts⟩ (k_X0_times l dC dI cI cJ x g t f G T F n q s.heap.size hn hno) (cwV 1 hts gL_times_X0_times rfl rfl rfl (by decide +kernel) ⟨Nat.le_of_ble_eq_true rfl, Nat.le_of_ble_eq_true rfl⟩) hK hP hD hS hA hX [0, 1, 2, 3] [4] rfl rfl (by decide) (by decide) (by decide) rfl (q0 := 0) rfl rfl hl.1 rfl (Nat.le_of_ble_eq_true rfl) dL_times_4 ⟨Nat.le_of_ble_eq_true rfl, Nat.le_of_ble_eq_true rfl⟩ (fun E ce q9 H locs hex hP hD hS hce hcv hcl => ?_) (fun r9 H locs hr9 hP hD hS => ?_)
  · obtain ⟨rfl, hok⟩ := hex
    refine xc_catch (own := RL) (E := "java/lang/IllegalArgumentException") (h := 12) hown (by rw [hTab]; exact Or.inr ⟨by decide, by decide, "java/lang/IllegalArgumentException", hts (.classLink RL 13 "java/lang/IllegalArgumentException") (by decide +kernel), Or.inl ⟨va_Nw.use rfl hX.2.2.2.2.1, rfl⟩⟩) hce hcv hcl ?_
    replace hP : va_P (dC, dI) vwCl [(o, .inl (cJ, 1, .inr (.inl O))), (x, .inr (0, [.ref g, .ref t, .ref f, .int (nI n)])), (g, .inl (cJ, 4, .inr (.inl G))), (t, .inl (cJ, 2560, .inr (.inl T))), (f, .inl (cI, 5120, .inl F))] H := hP
    replace hD : va_D A [(o, .inl (cJ, 1, .inr (.inl O))), (x, .inr (0, [.ref g, .ref t, .ref f, .int (nI n)])), (g, .inl (cJ, 4, .inr (.inl G))), (t, .inl (cJ, 2560, .inr (.inl T))), (f, .inl (cI, 5120, .inl F))] := hD
    refine lv_astore_n (lv' := [(3, .ref q9), (0, .ref x), (1, .int q), (2, .ref o)]) hx hb dL_times_12 rfl hl (by decide) rfl (fun ls hl => ?_)
    refine lv_iconst (v := nI 1) hx hb dL_times_13 (by decide) ?_
    refine W.widen (k := 1) (n := 6) (by omega) (by omega) ?_
    replace hP := hP.sub (ws' := [(x, .inr (0, [.ref g, .ref t, .ref f, .int (nI n)])), (g, .inl (cJ, 4, .inr (.inl G))), (t, .inl (cJ, 2560, .inr (.inl T))), (f, .inl (cI, 5120, .inl F)), (o, .inl (cJ, 1, .inr (.inl O)))]) [1, 2, 3, 4, 0] rfl
    replace hD := hD.sub (ws' := [(x, .inr (0, [.ref g, .ref t, .ref f, .int (nI n)])), (g, .inl (cJ, 4, .inr (.inl G))), (t, .inl (cJ, 2560, .inr (.inl T))), (f, .inl (cI, 5120, .inl F)), (o, .inl (cJ, 1, .inr (.inl O)))]) [1, 2, 3, 4, 0] (by decide) rfl
    exact wr_ret hx hb hr hlocks (by rw [hok]) (by rw [hok]; rfl) hP hK hD hS dL_times_14
  · obtain ⟨hok, hr9⟩ := hr9
    replace hP : va_P (dC, dI) vwCl [(o, .inl (cJ, 1, .inr (.inl O))), (x, .inr (0, [.ref g, .ref t, .ref f, .int (nI n)])), (g, .inl (cJ, 4, .inr (.inl G))), (t, .inl (cJ, 2560, .inr (.inl T))), (f, .inl (cI, 5120, .inl F))] H := hP
    replace hD : va_D A [(o, .inl (cJ, 1, .inr (.inl O))), (x, .inr (0, [.ref g, .ref t, .ref f, .int (nI n)])), (g, .inl (cJ, 4, .inr (.inl G))), (t, .inl (cJ, 2560, .inr (.inl T))), (f, .inl (cI, 5120, .inl F))] := hD
    refine lv_is hr9 ?_
    refine lv_i2l (v := (ga_cup F n (ga_last G T F q n)).toInt64) hx hb dL_times_7 rfl ?_
    refine ix_last hx hb hK hP hD hS 0 0 rfl rfl (show 0 < 1 by omega) (by decide) dL_times_8 (fun H locs hP hD hS => ?_)
    replace hP : va_P (dC, dI) vwCl [(o, .inl (cJ, 1, .inr (.inl (vp_updL O 0 ((ga_cup F n (ga_last G T F q n)).toInt64))))), (x, .inr (0, [.ref g, .ref t, .ref f, .int (nI n)])), (g, .inl (cJ, 4, .inr (.inl G))), (t, .inl (cJ, 2560, .inr (.inl T))), (f, .inl (cI, 5120, .inl F))] H := hP
    replace hD : va_D A [(o, .inl (cJ, 1, .inr (.inl (vp_updL O 0 ((ga_cup F n (ga_last G T F q n)).toInt64))))), (x, .inr (0, [.ref g, .ref t, .ref f, .int (nI n)])), (g, .inl (cJ, 4, .inr (.inl G))), (t, .inl (cJ, 2560, .inr (.inl T))), (f, .inl (cI, 5120, .inl F))] := hD
    refine lv_goto (tgt := 15) hx hb dL_times_9 (by decide) ?_
    refine lv_iconst (v := nI 0) hx hb dL_times_15 (by decide) ?_
    refine W.widen (k := 1) (n := 6) (by omega) (by omega) ?_
    replace hP := hP.sub (ws' := [(x, .inr (0, [.ref g, .ref t, .ref f, .int (nI n)])), (g, .inl (cJ, 4, .inr (.inl G))), (t, .inl (cJ, 2560, .inr (.inl T))), (f, .inl (cI, 5120, .inl F)), (o, .inl (cJ, 1, .inr (.inl (vp_updL O 0 ((ga_cup F n (ga_last G T F q n)).toInt64)))))]) [1, 2, 3, 4, 0] rfl
    replace hD := hD.sub (ws' := [(x, .inr (0, [.ref g, .ref t, .ref f, .int (nI n)])), (g, .inl (cJ, 4, .inr (.inl G))), (t, .inl (cJ, 2560, .inr (.inl T))), (f, .inl (cI, 5120, .inl F)), (o, .inl (cJ, 1, .inr (.inl (vp_updL O 0 ((ga_cup F n (ga_last G T F q n)).toInt64)))))]) [1, 2, 3, 4, 0] (by decide) rfl
    exact wr_ret hx hb hr hlocks (by rw [hok]) (by rw [hok]; rfl) hP hK hD hS dL_times_16
end
