/-! THE LAYER: one form for all contracts. N.1: ids and slots of the classes; N.2 0, 1, 2: the array classes of int, Sheet, State; N.2 3 .. 6: the static arrays OVER, STEP_X, STEP_Y, LONGEST. -/
abbrev ckN : Type := va_G × (Nat → Nat)
abbrev ckTy (N : ckN) : List (ClassId × FieldType) := [(N.2 0, .int), (N.2 1, .object "KiteMeet$Sheet"), (N.2 2, .object "KiteMeet$State")]
def ckF : List (String × Nat × String × String × String) := [("KiteMeet$Air", 70, "KiteMeet$Flyers", "count", "I"), ("KiteMeet", 301, "KiteMeet$Flyers", "count", "I"), ("KiteMeet$State", 23, "KiteMeet$Air", "flyers", "LKiteMeet$Flyers;"), ("KiteMeet", 86, "KiteMeet$Air", "flyers", "LKiteMeet$Flyers;"), ("KiteMeet$State", 33, "KiteMeet$Air", "winds", "LKiteMeet$Winds;"), ("KiteMeet", 137, "KiteMeet$Air", "winds", "LKiteMeet$Winds;"), ("KiteMeet$Joining", 19, "KiteMeet$Words", "lengths", "[I"), ("KiteMeet", 230, "KiteMeet$Words", "lengths", "[I"), ("KiteMeet$Untangling", 32, "KiteMeet$Words", "size", "I"), ("KiteMeet", 212, "KiteMeet$Row", "words", "LKiteMeet$Words;"), ("KiteMeet", 204, "KiteMeet$Row", "standing", "[I"), ("KiteMeet", 268, "KiteMeet$Row", "sharpness", "[I"), ("KiteMeet", 271, "KiteMeet$Row", "worn", "[I"), ("KiteMeet", 201, "KiteMeet$Row", "size", "I"), ("KiteMeet", 191, "KiteMeet$Row", "walks", "I"), ("KiteMeet", 82, "KiteMeet$State", "air", "LKiteMeet$Air;"), ("KiteMeet", 187, "KiteMeet$State", "row", "LKiteMeet$Row;"), ("KiteMeet", 297, "KiteMeet$History", "count", "I"), ("KiteMeet$Words", 49, "KiteMeet$Joining", "letters", "[I"), ("KiteMeet$Words", 34, "KiteMeet$Joining", "length", "I"), ("KiteMeet", 245, "KiteMeet$Untangling", "walks", "[I"), ("KiteMeet", 288, "KiteMeet$Sheet", "numbers", "[I"), ("KiteMeet", 282, "KiteMeet$Sheet", "bits", "I"), ("KiteMeet", 276, "KiteMeet$Sheet", "count", "I"), ("KiteMeet$Air", 55, "KiteMeet", "STEP_Y", "[I"), ("KiteMeet$Air", 49, "KiteMeet", "STEP_X", "[I")]
def ckM : List (String × Nat × MethodName) := [("KiteMeet", 9, ⟨"KiteMeet$State", "<init>", "()V"⟩), ("KiteMeet$State", 9, ⟨"KiteMeet$Air", "<init>", "()V"⟩), ("KiteMeet$Air", 11, ⟨"KiteMeet$Flyers", "<init>", "()V"⟩), ("KiteMeet$Air", 20, ⟨"KiteMeet$Winds", "<init>", "()V"⟩), ("KiteMeet$Row", 11, ⟨"KiteMeet$Words", "<init>", "()V"⟩), ("KiteMeet", 18, ⟨"KiteMeet$History", "<init>", "()V"⟩), ("KiteMeet", 31, ⟨"KiteMeet$Joining", "<init>", "()V"⟩), ("KiteMeet", 38, ⟨"KiteMeet$Untangling", "<init>", "()V"⟩), ("KiteMeet", 45, ⟨"KiteMeet$Words", "<init>", "()V"⟩), ("KiteMeet", 53, ⟨"KiteMeet$Sheet", "<init>", "()V"⟩), ("KiteMeet$History", 21, ⟨"KiteMeet$State", "<init>", "()V"⟩), ("KiteMeet$Flyers", 27, ⟨"KiteMeet", "leastOf", "(I)I"⟩), ("KiteMeet$Flyers", 31, ⟨"KiteMeet", "mostOf", "(I)I"⟩), ("KiteMeet$Air", 36, ⟨"KiteMeet", "isUnder", "(II)Z"⟩), ("KiteMeet$Air", 78, ⟨"KiteMeet", "oneIf", "(Z)I"⟩), ("KiteMeet$Untangling", 36, ⟨"KiteMeet", "walksOf", "(I)I"⟩), ("KiteMeet$Untangling", 40, ⟨"KiteMeet", "placeOf", "(I)I"⟩), ("KiteMeet$Untangling", 43, ⟨"KiteMeet", "isFront", "(I)Z"⟩)]
def ckOVER : Nat → Int32 := fun k => match k with
  | 0 => -1
  | 1 => 0
  | 2 => 0
  | _ => 1
def ckSX : Nat → Int32 := fun k => match k with
  | 0 => 1
  | 1 => 1
  | 2 => 0
  | 3 => -1
  | 4 => -1
  | 5 => -1
  | 6 => 0
  | _ => 1
def ckSY : Nat → Int32 := fun k => match k with
  | 0 => 0
  | 1 => 1
  | 2 => 1
  | 3 => 1
  | 4 => 0
  | 5 => -1
  | 6 => -1
  | _ => -1
def ckLG : Nat → Int32 := fun k => match k with
  | 0 => 1
  | 1 => 3
  | 2 => 9
  | _ => 27
/-- the static arrays -/
def ckS (N : ckN) (A : Nat → Prop) (U : State) (H : Heap) : Prop :=
  (va_Z "KiteMeet" "OVER" "[I" (.ref (N.2 3)) A U H ∧ va_T .int (N.2 3) 4 (fun j => .int (ckOVER j)) A U H) ∧
  (va_Z "KiteMeet" "STEP_X" "[I" (.ref (N.2 4)) A U H ∧ va_T .int (N.2 4) 8 (fun j => .int (ckSX j)) A U H) ∧
  (va_Z "KiteMeet" "STEP_Y" "[I" (.ref (N.2 5)) A U H ∧ va_T .int (N.2 5) 8 (fun j => .int (ckSY j)) A U H) ∧
  (va_Z "KiteMeet$Untangling" "LONGEST" "[I" (.ref (N.2 6)) A U H ∧ va_T .int (N.2 6) 4 (fun j => .int (ckLG j)) A U H)
theorem ckS.moved {N : ckN} {A : Nat → Prop} {u U : State} {H : Heap} (hvm : u.vm.Alike U.vm) (h : ckS N A u H) : ckS N A U H :=
  ⟨⟨h.1.1.moved hvm, h.1.2.moved hvm⟩, ⟨h.2.1.1.moved hvm, h.2.1.2.moved hvm⟩, ⟨h.2.2.1.1.moved hvm, h.2.2.1.2.moved hvm⟩, ⟨h.2.2.2.1.moved hvm, h.2.2.2.2.moved hvm⟩⟩
theorem ckS.kept {N : ckN} {A : Nat → Prop} {U : State} {H H1 : Heap} (h : ckS N A U H) (hq : ∀ a : Nat, a < H.size → ¬ A a → H1[a]? = H[a]?) : ckS N A U H1 :=
  ⟨⟨h.1.1.kept hq, h.1.2.kept hq⟩, ⟨h.2.1.1.kept hq, h.2.1.2.kept hq⟩, ⟨h.2.2.1.1.kept hq, h.2.2.1.2.kept hq⟩, ⟨h.2.2.2.1.kept hq, h.2.2.2.2.kept hq⟩⟩
theorem ckS.narrow {N : ckN} {A B : Nat → Prop} {U : State} {H : Heap} (h : ckS N A U H) (hq : ∀ q, B q → A q) : ckS N B U H :=
  ⟨⟨h.1.1.narrow hq, h.1.2.narrow hq⟩, ⟨h.2.1.1.narrow hq, h.2.1.2.narrow hq⟩, ⟨h.2.2.1.1.narrow hq, h.2.2.1.2.narrow hq⟩, ⟨h.2.2.2.1.narrow hq, h.2.2.2.2.narrow hq⟩⟩
/-- what every method takes of the world around it -/
def ckE (N : ckN) (A : Nat → Prop) (U : State) : Prop :=
  va_K N.1 vwCl (ckTy N) U ∧ (∀ q ∈ ckF, va_Nw (.fieldLinkNest q.1 q.2.1 q.2.2.1 q.2.2.2.1 q.2.2.2.2 "KiteMeet") U) ∧ (∀ q ∈ ckM, va_Nw (.methodLinkNest q.1 q.2.1 q.2.2 "KiteMeet") U) ∧ va_AO "KiteMeet$Sheet" U ∧ va_AO "KiteMeet$State" U ∧ ckS N A U U.heap
theorem ckE.call {N : ckN} {A B : Nat → Prop} {s U : State} {locs : List Loc} {H : Heap} (h : ckE N A s) (hS : va_S A s.heap H locs) (hB : ∀ q, B q → A q) (hU : U.heap = H) (hW : s.WarmedH U.vm) : ckE N B U := by
  obtain ⟨h1, h2, h3, h4, h5, h6⟩ := h
  refine ⟨va_K.moved hW.alike h1, fun q hq => va_Nw.warmF hW (h2 q hq), fun q hq => va_Nw.warmM hW (h3 q hq), h4.moved hW.alike, h5.moved hW.alike, ?_⟩
  rw [hU]
  exact ((h6.kept (fun a h7 h8 => hS.2.1 a h7 h8)).narrow hB).moved hW.alike
theorem ckE.blind {N : ckN} {A : Nat → Prop} {U : State} (h : ckE N A U) (g : JFrame) (mk : MethodId) (a : Array Value) : ckE N A (U.calling g mk a) := by
  obtain ⟨h1, h2, h3, h4, h5, h6⟩ := h
  have hv : U.vm.Alike (U.calling g mk a).vm := Vm.Alike.refl U.vm
  exact ⟨va_K.moved hv h1, fun q hq => va_Nw.same rfl rfl (h2 q hq), fun q hq => va_Nw.same rfl rfl (h3 q hq), h4.moved hv, h5.moved hv, h6.moved hv⟩
theorem ckE.nf {N : ckN} {A : Nat → Prop} {U : State} (h : ckE N A U) (k : Nat) {a b n d : String} {i : Nat} (hk : ckF[k]? = some (a, i, b, n, d)) (args : Array Value) : (Cond.fieldLinkNest a i b n d "KiteMeet").before args U = true :=
  va_Nw.use rfl (h.2.1 _ (List.mem_of_getElem? hk))
theorem ckE.nm {N : ckN} {A : Nat → Prop} {U : State} (h : ckE N A U) (k : Nat) {a : String} {i : Nat} {y : MethodName} (hk : ckM[k]? = some (a, i, y)) : va_Nw (.methodLinkNest a i y "KiteMeet") U := h.2.2.1 _ (List.mem_of_getElem? hk)
abbrev ckW (y : MethodName) (cc : ByteArray) (maxL : Nat) (ret : Option FieldType) : List Cond := Cond.code y cc maxL ret :: wsG
/-- a contract's start and end -/
def ckP (N : ckN) (w0 : va_W) (sz : Nat) (av : List Value) : Array Value → State → Prop := va_Pc av (fun U => U.heap.size = sz ∧ ckE N (va_A w0 sz) U ∧ va_P N.1 vwCl w0 U.heap ∧ va_D (fun _ => True) w0)
def ckB {S : Type} (N : ckN) (A : Nat → Prop) (w1 : S → va_W) (u : S) (t : State) : Prop := va_P N.1 vwCl (w1 u) t.heap ∧ va_D A (w1 u)
def ckI {S : Type} (l : Launch) (y : MethodName) (cc : ByteArray) (maxL : Nat) (ret : Option FieldType) (rm : Room) (N : ckN) (av : List Value) (w0 : va_W) (post : Int32 → S → Prop) (w1 : S → va_W) : Prop :=
  ∀ sz : Nat, Met l y (ckW y cc maxL ret) rm (ckP N w0 sz av) (va_Qi post (ckB N (va_A w0 sz) w1) (va_A w0 sz)) rm.cells rm.slots (va_A w0 sz)
def ckV {S : Type} (l : Launch) (y : MethodName) (cc : ByteArray) (maxL : Nat) (ret : Option FieldType) (rm : Room) (N : ckN) (av : List Value) (w0 : va_W) (post : S → Prop) (w1 : S → va_W) : Prop :=
  ∀ sz : Nat, Met l y (ckW y cc maxL ret) rm (ckP N w0 sz av) (va_Qv post (ckB N (va_A w0 sz) w1) (va_A w0 sz)) rm.cells rm.slots (va_A w0 sz)
abbrev ckU : Unit → va_W → va_W := fun _ w => w
theorem ckP.blind {N : ckN} {w0 : va_W} {sz : Nat} {av : List Value} : FrameBlind (ckP N w0 sz av) := by
  intro a U g mk h
  obtain ⟨h0, h1, h2, h3, h4⟩ := h
  exact ⟨h0, h1, h2.blind g mk a, h3, h4⟩
/-- the body's goal -/
abbrev ckQi {S : Type} (N : ckN) (A : Nat → Prop) (below : List Frame) (s : State) (args : Array Value) (rm : Room) (post : Int32 → S → Prop) (w1 : S → va_W) : State → Prop := MQ below (va_Qi post (ckB N A w1) A) args s rm.cells rm.slots A
abbrev ckQv {S : Type} (N : ckN) (A : Nat → Prop) (below : List Frame) (s : State) (args : Array Value) (rm : Room) (post : S → Prop) (w1 : S → va_W) : State → Prop := MQ below (va_Qv post (ckB N A w1) A) args s rm.cells rm.slots A
theorem ckI.of {S : Type} {l : Launch} {y : MethodName} {rm : Room} {N : ckN} {av : List Value} {w0 : va_W} {post : Int32 → S → Prop} {w1 : S → va_W} {cc : ByteArray} {maxL : Nat} {ret : Option FieldType}
    (hy : plainName y.cls = true) (hn : (lg_sl av).length ≤ maxL)
    (body : ∀ (p : Program) (e : Env) (s : State) (m : MethodId) (below : List Frame) (meth : Method) (c : Code) (A : Nat → Prop) (ls : Array Slot), p.tables.exec = Jvm.exec → c.code = cc → meth.sig.returnType = ret → c.maxLocals = maxL → s.vm.findClass y.cls = some m.cls → meth.locks = false → meth.name = y.name → (∀ w ∈ wsG, w.before av.toArray s = true) → ckE N A s → (∀ q : Nat, s.heap.size ≤ q → A q) → va_P N.1 vwCl w0 s.heap → va_D A w0 → va_S A s.heap s.heap [] → lv_has ls maxL (lv_args 0 av) →
      W p l e rm s m av.toArray below meth c s.heap [] 0 0 (ckQi N A below s av.toArray rm post w1) (F0 m 0 ls [])) : ckI l y cc maxL ret rm N av w0 post w1 := by
  intro sz
  refine Met.ofW (cc := cc) (maxL := maxL) (ret := ret) hy rfl ?_
  intro p e s m args below meth c s₁ B hml hv
  obtain ⟨rfl, hsz, hE, hP, hD0⟩ := hv
  subst hsz
  rw [lg_entry_eq]
  exact body p e s m below meth c _ _ B.exec B.bytes B.returns hml (findClass_of_methodNamed B.named) B.notSynchronized (name_of_methodNamed B.named B.method).1 (fun w h => atoms_spec (ws := ckW y cc maxL ret) B.pre w (List.mem_cons_of_mem _ h)) hE (fun q h => Or.inr h) hP (hD0.self (sz := s.heap.size)) va_S.rf (lv_entry av hn)
theorem ckV.of {S : Type} {l : Launch} {y : MethodName} {rm : Room} {N : ckN} {av : List Value} {w0 : va_W} {post : S → Prop} {w1 : S → va_W} {cc : ByteArray} {maxL : Nat} {ret : Option FieldType}
    (hy : plainName y.cls = true) (hn : (lg_sl av).length ≤ maxL)
    (body : ∀ (p : Program) (e : Env) (s : State) (m : MethodId) (below : List Frame) (meth : Method) (c : Code) (A : Nat → Prop) (ls : Array Slot), p.tables.exec = Jvm.exec → c.code = cc → meth.sig.returnType = ret → c.maxLocals = maxL → s.vm.findClass y.cls = some m.cls → meth.locks = false → meth.name = y.name → (∀ w ∈ wsG, w.before av.toArray s = true) → ckE N A s → (∀ q : Nat, s.heap.size ≤ q → A q) → va_P N.1 vwCl w0 s.heap → va_D A w0 → va_S A s.heap s.heap [] → lv_has ls maxL (lv_args 0 av) →
      W p l e rm s m av.toArray below meth c s.heap [] 0 0 (ckQv N A below s av.toArray rm post w1) (F0 m 0 ls [])) : ckV l y cc maxL ret rm N av w0 post w1 := by
  intro sz
  refine Met.ofW (cc := cc) (maxL := maxL) (ret := ret) hy rfl ?_
  intro p e s m args below meth c s₁ B hml hv
  obtain ⟨rfl, hsz, hE, hP, hD0⟩ := hv
  subst hsz
  rw [lg_entry_eq]
  exact body p e s m below meth c _ _ B.exec B.bytes B.returns hml (findClass_of_methodNamed B.named) B.notSynchronized (name_of_methodNamed B.named B.method).1 (fun w h => atoms_spec (ws := ckW y cc maxL ret) B.pre w (List.mem_cons_of_mem _ h)) hE (fun q h => Or.inr h) hP (hD0.self (sz := s.heap.size)) va_S.rf (lv_entry av hn)
def b2i (b : Bool) : Int32 := if b then 1 else 0
theorem b2i_t : b2i true = 1 := rfl
theorem b2i_f : b2i false = 0 := rfl
theorem b2i_0 {b : Bool} : b2i b = 0 ↔ b = false := by cases b <;> decide
theorem b2i_n0 {b : Bool} : ¬ b2i b = 0 ↔ b = true := by cases b <;> decide
theorem b2i_nar (b : Bool) : narrow .boolean (.int (b2i b)) = .int (b2i b) := by cases b <;> rfl
section CKR
variable {p : Program} {l : Launch} {e : Env} {R : Room} {s : State} {m : MethodId} {args : Array Value} {below : List Frame} {meth : Method} {c : Code} {H : Heap} {locs : List Loc} {cells slots : Nat} {Q : State → Prop}
variable {cc : ByteArray} {pc : Nat} {ls : Array Slot} {rest : List Value} {A : Nat → Prop} {N : ckN} {rm : Room} {ws : va_W}
theorem ck_top {x y : Int32} (h : x = y) (k : W p l e R s m args below meth c H locs cells slots Q (F0 m pc ls (.int y :: rest))) : W p l e R s m args below meth c H locs cells slots Q (F0 m pc ls (.int x :: rest)) := h ▸ k
theorem ck_iret {S : Type} {post : Int32 → S → Prop} {w1 : S → va_W} {v : Int32} (hx : p.tables.exec = Jvm.exec) (hb : c.code = cc) (hr : meth.sig.returnType = some .int) (hlocks : meth.locks = false) (u : S) (hp : post v u) (hP : va_P N.1 vwCl (w1 u) H) (hD : va_D A (w1 u)) (hS : va_S A s.heap H locs) (hc : cells ≤ rm.cells ∧ slots ≤ rm.slots) (hdg : decode cc pc = .ok (.ireturn, 1)) :
    W p l e rm s m args below meth c H locs cells slots (ckQi N A below s args rm post w1) (F0 m pc ls [.int v]) :=
  W.widen hc.1 hc.2 (W.iret hx hb hr (fun t ht hW => ⟨⟨v, u, rfl, hp, by rw [ht]; exact hP, hD⟩, hS.F ht⟩) hS.2.2 hdg hlocks)
theorem ck_zret {S : Type} {post : Int32 → S → Prop} {w1 : S → va_W} {b : Bool} (hx : p.tables.exec = Jvm.exec) (hb : c.code = cc) (hr : meth.sig.returnType = some .boolean) (hlocks : meth.locks = false) (u : S) (hp : post (b2i b) u) (hP : va_P N.1 vwCl (w1 u) H) (hD : va_D A (w1 u)) (hS : va_S A s.heap H locs) (hc : cells ≤ rm.cells ∧ slots ≤ rm.slots) (hdg : decode cc pc = .ok (.ireturn, 1)) :
    W p l e rm s m args below meth c H locs cells slots (ckQi N A below s args rm post w1) (F0 m pc ls [.int (b2i b)]) :=
  W.widen hc.1 hc.2 (W.zret hx hb hr (b2i_nar b) (fun t ht hW => ⟨⟨b2i b, u, rfl, hp, by rw [ht]; exact hP, hD⟩, hS.F ht⟩) hS.2.2 hdg hlocks)
theorem ck_vret {S : Type} {post : S → Prop} {w1 : S → va_W} (hx : p.tables.exec = Jvm.exec) (hb : c.code = cc) (hr : meth.sig.returnType = none) (hlocks : meth.locks = false) (u : S) (hp : post u) (hP : va_P N.1 vwCl (w1 u) H) (hD : va_D A (w1 u)) (hS : va_S A s.heap H locs) (hc : cells ≤ rm.cells ∧ slots ≤ rm.slots) (hdg : decode cc pc = .ok (.return_, 1)) :
    W p l e rm s m args below meth c H locs cells slots (ckQv N A below s args rm post w1) (F0 m pc ls []) :=
  W.widen hc.1 hc.2 (W.vret hx hb hr (fun t ht hW => ⟨⟨u, rfl, hp, by rw [ht]; exact hP, hD⟩, hS.F ht⟩) hS.2.2 hdg hlocks)
/-- an int array of the world, at a place that is a natural number -/
theorem ck_iald (hx : p.tables.exec = Jvm.exec) (hb : c.code = cc) (hE : ckE N A s) (hP : va_P N.1 vwCl ws H) (q0 : Nat) {a n i : Nat} {f : Nat → Int32} (ha : ws[q0]? = some (a, .inl (N.2 0, n, .inl f))) (hi : i < n) (hn : n < 2 ^ 31) (hdg : decode cc pc = .ok (.iaload, 1))
    (kk : W p l e R s m args below meth c H locs cells slots Q (F0 m (pc + 1) ls (.int (f i) :: rest))) : W p l e R s m args below meth c H locs cells slots Q (F0 m pc ls (.int (nI i) :: .ref a :: rest)) :=
  va_iald hx hb hE.1 hP q0 0 ha rfl (vp_in_nI hi hn) hdg (by rw [nI_clamp (Nat.lt_trans hi hn)]; exact kk)
theorem ck_iast (hx : p.tables.exec = Jvm.exec) (hb : c.code = cc) (hE : ckE N A s) (hP : va_P N.1 vwCl ws H) (hD : va_D A ws) (hS : va_S A s.heap H locs) (q0 : Nat) {a n i : Nat} {x : Int32} {f : Nat → Int32} (ha : ws[q0]? = some (a, .inl (N.2 0, n, .inl f))) (hi : i < n) (hn : n < 2 ^ 31) (hdg : decode cc pc = .ok (.iastore, 1)) {ws1 : va_W} (h1 : ws.set q0 (a, .inl (N.2 0, n, .inl (upd f i x))) = ws1)
    (kk : ∀ (H1 : Heap) (locs1 : List Loc), va_P N.1 vwCl ws1 H1 → va_D A ws1 → va_S A s.heap H1 locs1 → W p l e R s m args below meth c H1 locs1 cells slots Q (F0 m (pc + 1) ls rest)) : W p l e R s m args below meth c H locs cells slots Q (F0 m pc ls (.int x :: .int (nI i) :: .ref a :: rest)) := by
  subst h1
  refine va_iast hx hb hE.1 hP hD hS q0 0 ha rfl (vp_in_nI hi hn) hdg (fun H1 locs1 h1 h2 h3 => ?_)
  rw [nI_clamp (Nat.lt_trans hi hn)] at h1 h2
  exact kk H1 locs1 h1 h2 h3
/-- branches on an answer that is a truth value -/
theorem ck_ifeq {b : Bool} (hx : p.tables.exec = Jvm.exec) (hb : c.code = cc) {off : Int} {tgt : Nat} (hdg : decode cc pc = .ok (.ifCond .eq off, 3)) (ht : (pc : Int) + off = (tgt : Int)) (kt : b = false → W p l e R s m args below meth c H locs cells slots Q (F0 m tgt ls rest)) (kf : b = true → W p l e R s m args below meth c H locs cells slots Q (F0 m (pc + 3) ls rest)) : W p l e R s m args below meth c H locs cells slots Q (F0 m pc ls (.int (b2i b) :: rest)) :=
  lv_if_eq hx hb hdg ht (fun h => kt (b2i_0.mp h)) (fun h => kf (b2i_n0.mp h))
theorem ck_ifne {b : Bool} (hx : p.tables.exec = Jvm.exec) (hb : c.code = cc) {off : Int} {tgt : Nat} (hdg : decode cc pc = .ok (.ifCond .ne off, 3)) (ht : (pc : Int) + off = (tgt : Int)) (kt : b = true → W p l e R s m args below meth c H locs cells slots Q (F0 m tgt ls rest)) (kf : b = false → W p l e R s m args below meth c H locs cells slots Q (F0 m (pc + 3) ls rest)) : W p l e R s m args below meth c H locs cells slots Q (F0 m pc ls (.int (b2i b) :: rest)) :=
  lv_if_ne hx hb hdg ht (fun h => kt (b2i_n0.mp h)) (fun h => kf (b2i_0.mp h))
end CKR
section CKC
variable {p : Program} {l : Launch} {e : Env} {R : Room} {s : State} {m : MethodId} {args : Array Value} {below : List Frame} {meth : Method} {c : Code} {H : Heap} {locs : List Loc} {cells slots : Nat} {Q : State → Prop}
variable {cc bytes : ByteArray} {pc nL n maxL idx : Nat} {ls : Array Slot} {rest st0 As : List Value} {A : Nat → Prop} {N : ckN} {rmy : Room} {ws wc wr : va_W} {own : String} {y : MethodName} {ret : Option FieldType} {b : Nat} {S : Type}
/-- what every call takes of the caller: machine, tables, world -/
abbrev ckC (p : Program) (s : State) (m : MethodId) (args : Array Value) (c : Code) (cc : ByteArray) (nL : Nat) (own : String) (N : ckN) (A : Nat → Prop) : Prop :=
  CallFix p m c cc nL s args wsG own ∧ ckE N A s ∧ ∀ q : Nat, s.heap.size ≤ q → A q
/-- the cut: which places of the world are the callee's, which are left -/
abbrev ckX (ws wc wr : va_W) (isC isR : List Nat) : Prop := (isC.map (fun i => ws[i]?) = wc.map some ∧ isR.map (fun i => ws[i]?) = wr.map some) ∧ va_nd isC = true ∧ va_nd isR = true ∧ ∀ i ∈ isR, i ∉ isC
abbrev ckR (R rmy : Room) (maxL : Nat) : Prop := rmy.frames + 1 ≤ R.frames ∧ 8 + (maxL + 11) + rmy.locals ≤ R.locals
theorem ck_pre {av : List Value} (C : ckC p s m args c cc nL own N A) (hP : va_P N.1 vwCl ws H) (hD : va_D A ws) (hS : va_S A s.heap H locs) {isC isR : List Nat} (X : ckX ws wc wr isC isR) :
    FrameBlind (ckP N wc H.size av) ∧ (∀ U : State, U.heap = H → s.WarmedH U.vm → ckP N wc H.size av av.toArray U) ∧ ∀ q, va_A wc H.size q → A q := by
  have hF := va_free (wc := wc) hD hS C.2.2 isC X.1.1
  have hPc : va_P N.1 vwCl wc H := by
    refine hP.sub isC ?_
    have h1 := X.1.1
    have : ∀ (is : List Nat) (w : va_W), is.map (fun i => ws[i]?) = w.map some → is.filterMap (fun i => ws[i]?) = w := by
      intro is
      induction is with
      | nil =>
        intro w hw
        cases w with
        | nil => rfl
        | cons x w => cases hw
      | cons i is ih =>
        intro w hw
        cases w with
        | nil => cases hw
        | cons x w =>
          rw [List.map_cons, List.map_cons] at hw
          injection hw with h2 h3
          rw [List.filterMap_cons, h2, ih w h3]
    exact this isC wc h1
  have hDc : va_D A wc := hD.sub isC X.2.1 X.1.1
  exact ⟨ckP.blind, fun U hU hW => ⟨rfl, by rw [hU], C.2.1.call hS hF hU hW, by rw [hU]; exact hPc, hDc.weaken (fun _ _ _ _ => trivial)⟩, hF⟩
theorem ck_goi {post : Int32 → S → Prop} {w1 : S → va_W} {a : Array Value} (hP : va_P N.1 vwCl ws H) (hD : va_D A ws) (hS : va_S A s.heap H locs) {isC isR : List Nat} (X : ckX ws wc wr isC isR) (hF : ∀ q, va_A wc H.size q → A q)
    (hr : va_Run p l e R s m args below meth c H locs cells slots rmy.cells rmy.slots (F0 m pc ls st0) rest (va_Qi post (ckB N (va_A wc H.size) w1) (va_A wc H.size) a) (va_A wc H.size))
    (kk : ∀ (r : Int32) (u : S) (H1 : Heap) (locs1 : List Loc), post r u → va_P N.1 vwCl (wr ++ w1 u) H1 → va_D A (wr ++ w1 u) → va_S A s.heap H1 locs1 → W p l e R s m args below meth c H1 locs1 (cells + rmy.cells) (slots + rmy.slots) Q (F0 m (pc + 3) ls (.int r :: rest))) :
    W p l e R s m args below meth c H locs cells slots Q (F0 m pc ls st0) := by
  refine va_calli hr hS (fun q _ h => hF q h) hF (fun r u t H1 locs1 ht hvm hw hB hz1 hk1 hS1 => ?_)
  obtain ⟨hP1, hD1⟩ := hB
  rw [ht] at hP1
  obtain ⟨hP2, hD2⟩ := va_join (wr := wr) (w1 := w1 u) hP hD isC isR X.1.1 X.1.2 X.2.2.1 X.2.2.2 hk1 hF hP1 hD1
  exact kk r u H1 locs1 hw hP2 hD2 hS1
theorem ck_gov {post : S → Prop} {w1 : S → va_W} {a : Array Value} (hP : va_P N.1 vwCl ws H) (hD : va_D A ws) (hS : va_S A s.heap H locs) {isC isR : List Nat} (X : ckX ws wc wr isC isR) (hF : ∀ q, va_A wc H.size q → A q)
    (hr : va_Run p l e R s m args below meth c H locs cells slots rmy.cells rmy.slots (F0 m pc ls st0) rest (va_Qv post (ckB N (va_A wc H.size) w1) (va_A wc H.size) a) (va_A wc H.size))
    (kk : ∀ (u : S) (H1 : Heap) (locs1 : List Loc), post u → va_P N.1 vwCl (wr ++ w1 u) H1 → va_D A (wr ++ w1 u) → va_S A s.heap H1 locs1 → W p l e R s m args below meth c H1 locs1 (cells + rmy.cells) (slots + rmy.slots) Q (F0 m (pc + 3) ls rest)) :
    W p l e R s m args below meth c H locs cells slots Q (F0 m pc ls st0) := by
  refine va_callv hr hS (fun q _ h => hF q h) hF (fun u t H1 locs1 ht hvm hw hB hz1 hk1 hS1 => ?_)
  obtain ⟨hP1, hD1⟩ := hB
  rw [ht] at hP1
  obtain ⟨hP2, hD2⟩ := va_join (wr := wr) (w1 := w1 u) hP hD isC isR X.1.1 X.1.2 X.2.2.1 X.2.2.2 hk1 hF hP1 hD1
  exact kk u H1 locs1 hw hP2 hD2 hS1
theorem ck_recv {q0 ci : Nat} {q : vw_C} {fs : List Value} (hE : ckE N A s) (hP : va_P N.1 vwCl ws H) (he : ws[q0]? = some (b, .inr (ci, fs))) (hc : vwCl[ci]? = some q) (hq : q.1 = y.cls) : ∃ cellB : Cell, H[b]? = some cellB ∧ cellB.vm.isStatics = false ∧ s.vm.findClass y.cls = some cellB.cls := by
  rw [← hq]
  exact va_recv hE.1 hP hc he
/-- invokevirtual, an int comes back -/
theorem ck_Vi {post : Int32 → S → Prop} {w1 : S → va_W} (C : ckC p s m args c cc nL own N A) (hP : va_P N.1 vwCl ws H) (hD : va_D A ws) (hS : va_S A s.heap H locs) (hM : ckI l y bytes maxL ret rmy N (.ref b :: As) wc post w1) (hm : ckMi y bytes maxL ret n) (hlk : Cond.methodLink own idx y ∈ wsG) (hR : ckR R rmy maxL) (isC isR : List Nat) (X : ckX ws wc wr isC isR) (q0 : Nat) {ci : Nat} {q : vw_C} {fs : List Value} (he : ws[q0]? = some (b, .inr (ci, fs))) (hc : vwCl[ci]? = some q) (hq : q.1 = y.cls)
    (hn : As.length = n) (hz : ls.size = nL) (hst : st0 = As.reverse ++ .ref b :: rest) (hrm : (rest.map fun v => v.category).sum ≤ 8) (hdg : decode cc pc = .ok (.invokevirtual idx, 3)) (hf : cells + rmy.cells ≤ R.cells ∧ slots + rmy.slots ≤ R.slots)
    (kk : ∀ (r : Int32) (u : S) (H1 : Heap) (locs1 : List Loc), post r u → va_P N.1 vwCl (wr ++ w1 u) H1 → va_D A (wr ++ w1 u) → va_S A s.heap H1 locs1 → W p l e R s m args below meth c H1 locs1 (cells + rmy.cells) (slots + rmy.slots) Q (F0 m (pc + 3) ls (.int r :: rest))) : W p l e R s m args below meth c H locs cells slots Q (F0 m pc ls st0) := by
  obtain ⟨h1, h2, hF⟩ := ck_pre (av := .ref b :: As) C hP hD hS X
  exact ck_goi hP hD hS X hF (va_runV (As := As) (rest := rest) C.1 (hM H.size) (cwV n C.1.2.2.2.2 (ck_gV hm hlk) rfl rfl rfl ⟨rfl, hm.2⟩ hR) ⟨h1, ck_recv C.2.1 hP he hc hq, h2⟩ rfl hn hz hst (lv_room hrm) hdg hf) kk
theorem ck_Vv {post : S → Prop} {w1 : S → va_W} (C : ckC p s m args c cc nL own N A) (hP : va_P N.1 vwCl ws H) (hD : va_D A ws) (hS : va_S A s.heap H locs) (hM : ckV l y bytes maxL ret rmy N (.ref b :: As) wc post w1) (hm : ckMi y bytes maxL ret n) (hlk : Cond.methodLink own idx y ∈ wsG) (hR : ckR R rmy maxL) (isC isR : List Nat) (X : ckX ws wc wr isC isR) (q0 : Nat) {ci : Nat} {q : vw_C} {fs : List Value} (he : ws[q0]? = some (b, .inr (ci, fs))) (hc : vwCl[ci]? = some q) (hq : q.1 = y.cls)
    (hn : As.length = n) (hz : ls.size = nL) (hst : st0 = As.reverse ++ .ref b :: rest) (hrm : (rest.map fun v => v.category).sum ≤ 8) (hdg : decode cc pc = .ok (.invokevirtual idx, 3)) (hf : cells + rmy.cells ≤ R.cells ∧ slots + rmy.slots ≤ R.slots)
    (kk : ∀ (u : S) (H1 : Heap) (locs1 : List Loc), post u → va_P N.1 vwCl (wr ++ w1 u) H1 → va_D A (wr ++ w1 u) → va_S A s.heap H1 locs1 → W p l e R s m args below meth c H1 locs1 (cells + rmy.cells) (slots + rmy.slots) Q (F0 m (pc + 3) ls rest)) : W p l e R s m args below meth c H locs cells slots Q (F0 m pc ls st0) := by
  obtain ⟨h1, h2, hF⟩ := ck_pre (av := .ref b :: As) C hP hD hS X
  exact ck_gov hP hD hS X hF (va_runV (As := As) (rest := rest) C.1 (hM H.size) (cwV n C.1.2.2.2.2 (ck_gV hm hlk) rfl rfl rfl ⟨rfl, hm.2⟩ hR) ⟨h1, ck_recv C.2.1 hP he hc hq, h2⟩ rfl hn hz hst (lv_room hrm) hdg hf) kk
/-- invokestatic of a class's own method -/
theorem ck_Si {post : Int32 → S → Prop} {w1 : S → va_W} (C : ckC p s m args c cc nL own N A) (hP : va_P N.1 vwCl ws H) (hD : va_D A ws) (hS : va_S A s.heap H locs) (hM : ckI l y bytes maxL ret rmy N As wc post w1) (hm : ckMs y bytes maxL ret n) (hlk : Cond.methodLink own idx y ∈ wsG) (hR : ckR R rmy maxL) (isC isR : List Nat) (X : ckX ws wc wr isC isR)
    (hn : As.length = n) (hz : ls.size = nL) (hst : st0 = As.reverse ++ rest) (hrm : (rest.map fun v => v.category).sum ≤ 8) (hdg : decode cc pc = .ok (.invokestatic idx, 3)) (hf : cells + rmy.cells ≤ R.cells ∧ slots + rmy.slots ≤ R.slots)
    (kk : ∀ (r : Int32) (u : S) (H1 : Heap) (locs1 : List Loc), post r u → va_P N.1 vwCl (wr ++ w1 u) H1 → va_D A (wr ++ w1 u) → va_S A s.heap H1 locs1 → W p l e R s m args below meth c H1 locs1 (cells + rmy.cells) (slots + rmy.slots) Q (F0 m (pc + 3) ls (.int r :: rest))) : W p l e R s m args below meth c H locs cells slots Q (F0 m pc ls st0) := by
  obtain ⟨h1, h2, hF⟩ := ck_pre (av := As) C hP hD hS X
  exact ck_goi hP hD hS X hF (va_runS (As := As) (rest := rest) C.1 (hM H.size) (va_cwS n C.1.2.2.2.2 (ck_gS hm hlk) rfl rfl rfl hm.2 hR) ⟨h1, h2⟩ rfl hn hz hst (lv_room hrm) hdg hf) kk
/-- invokestatic of a nest mate's private method -/
theorem ck_SNi {post : Int32 → S → Prop} {w1 : S → va_W} (C : ckC p s m args c cc nL own N A) (hP : va_P N.1 vwCl ws H) (hD : va_D A ws) (hS : va_S A s.heap H locs) (hM : ckI l y bytes maxL ret rmy N As wc post w1) (hm : ckMs y bytes maxL ret n) (k : Nat) (hk : ckM[k]? = some (own, idx, y)) (hR : ckR R rmy maxL) (isC isR : List Nat) (X : ckX ws wc wr isC isR)
    (hn : As.length = n) (hz : ls.size = nL) (hst : st0 = As.reverse ++ rest) (hrm : (rest.map fun v => v.category).sum ≤ 8) (hdg : decode cc pc = .ok (.invokestatic idx, 3)) (hf : cells + rmy.cells ≤ R.cells ∧ slots + rmy.slots ≤ R.slots)
    (kk : ∀ (r : Int32) (u : S) (H1 : Heap) (locs1 : List Loc), post r u → va_P N.1 vwCl (wr ++ w1 u) H1 → va_D A (wr ++ w1 u) → va_S A s.heap H1 locs1 → W p l e R s m args below meth c H1 locs1 (cells + rmy.cells) (slots + rmy.slots) Q (F0 m (pc + 3) ls (.int r :: rest))) : W p l e R s m args below meth c H locs cells slots Q (F0 m pc ls st0) := by
  obtain ⟨h1, h2, hF⟩ := ck_pre (av := As) C hP hD hS X
  exact ck_goi hP hD hS X hF (va_runSN (As := As) (rest := rest) C.1 (hM H.size) ⟨va_cnB n C.1.2.2.2.2 (ck_gW hm.1.2.2) rfl rfl rfl (C.2.1.nm k hk) (C.1.2.2.2.2 _ hm.1.2.1) hm.2 hR, C.1.2.2.2.2 _ hm.1.1, trivial⟩ ⟨h1, h2⟩ rfl hn hz hst (lv_room hrm) hdg hf) kk
/-- invokespecial of a constructor: the class's own kind of link, and a nest mate's -/
theorem ck_Iv {post : S → Prop} {w1 : S → va_W} (C : ckC p s m args c cc nL own N A) (hP : va_P N.1 vwCl ws H) (hD : va_D A ws) (hS : va_S A s.heap H locs) (hM : ckV l y bytes maxL none rmy N (.ref b :: As) wc post w1) (hm : ckMo y bytes maxL n) (hlk : Cond.methodLink own idx y ∈ wsG) (hR : ckR R rmy maxL) (isC isR : List Nat) (X : ckX ws wc wr isC isR)
    (hn : As.length = n) (hz : ls.size = nL) (hst : st0 = As.reverse ++ .ref b :: rest) (hrm : (rest.map fun v => v.category).sum ≤ 8) (hdg : decode cc pc = .ok (.invokespecial idx, 3)) (hf : cells + rmy.cells ≤ R.cells ∧ slots + rmy.slots ≤ R.slots)
    (kk : ∀ (u : S) (H1 : Heap) (locs1 : List Loc), post u → va_P N.1 vwCl (wr ++ w1 u) H1 → va_D A (wr ++ w1 u) → va_S A s.heap H1 locs1 → W p l e R s m args below meth c H1 locs1 (cells + rmy.cells) (slots + rmy.slots) Q (F0 m (pc + 3) ls rest)) : W p l e R s m args below meth c H locs cells slots Q (F0 m pc ls st0) := by
  obtain ⟨h1, h2, hF⟩ := ck_pre (av := .ref b :: As) C hP hD hS X
  have ht := C.1.2.2.2.2
  exact ck_gov hP hD hS X hF (va_runI (As := As) (rest := rest) C.1 (hM H.size) (cwI n ht (ck_gW hm.1.2.2.1) rfl rfl rfl (ht _ hm.1.2.1) (ht _ hlk) (ht _ hm.1.1) hm.1.2.2.2 hm.2 hR) ⟨h1, h2⟩ rfl hn hz hst (lv_room hrm) hdg hf) kk
theorem ck_INv {post : S → Prop} {w1 : S → va_W} (C : ckC p s m args c cc nL own N A) (hP : va_P N.1 vwCl ws H) (hD : va_D A ws) (hS : va_S A s.heap H locs) (hM : ckV l y bytes maxL none rmy N (.ref b :: As) wc post w1) (hm : ckMo y bytes maxL n) (k : Nat) (hk : ckM[k]? = some (own, idx, y)) (hR : ckR R rmy maxL) (isC isR : List Nat) (X : ckX ws wc wr isC isR)
    (hn : As.length = n) (hz : ls.size = nL) (hst : st0 = As.reverse ++ .ref b :: rest) (hrm : (rest.map fun v => v.category).sum ≤ 8) (hdg : decode cc pc = .ok (.invokespecial idx, 3)) (hf : cells + rmy.cells ≤ R.cells ∧ slots + rmy.slots ≤ R.slots)
    (kk : ∀ (u : S) (H1 : Heap) (locs1 : List Loc), post u → va_P N.1 vwCl (wr ++ w1 u) H1 → va_D A (wr ++ w1 u) → va_S A s.heap H1 locs1 → W p l e R s m args below meth c H1 locs1 (cells + rmy.cells) (slots + rmy.slots) Q (F0 m (pc + 3) ls rest)) : W p l e R s m args below meth c H locs cells slots Q (F0 m pc ls st0) := by
  obtain ⟨h1, h2, hF⟩ := ck_pre (av := .ref b :: As) C hP hD hS X
  have ht := C.1.2.2.2.2
  exact ck_gov hP hD hS X hF (va_runIN (As := As) (rest := rest) C.1 (hM H.size) ⟨va_cnB n ht (ck_gW hm.1.2.2.1) rfl rfl rfl (C.2.1.nm k hk) (ht _ hm.1.2.1) hm.2 hR, hm.1.2.2.2, ht _ hm.1.1⟩ ⟨h1, h2⟩ rfl hn hz hst (lv_room hrm) hdg hf) kk
end CKC
