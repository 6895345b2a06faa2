/-! the words that all methods share: of the tables those that every call keeps -/
def lw_all : List Cond := lw_tbl.filter goodWord
theorem lw_all_tbl {w : Cond} (h : w ∈ lw_all) : w ∈ lw_tbl := (List.mem_filter.mp h).1
theorem lw_good {w : Cond} (h : w ∈ lw_all) : (w.onTables && w.keeps) = true ∨ ∃ ty, w = .arrayClass ty := good_of_word (List.mem_filter.mp h).2
theorem lw_in {w : Cond} (h : w ∈ lw_tbl) (g : goodWord w = true) : w ∈ lw_all := List.mem_filter.mpr ⟨h, g⟩
theorem tc_0 {w : Cond} (h : w ∈ k2_sels lw_privs) : w ∈ lw_tbl := List.mem_append_left _ h
theorem tc_1 {w : Cond} (h : w ∈ tables_1_1) : w ∈ lw_tbl := List.mem_append_right _ (List.mem_append_left _ h)
theorem tc_2 {w : Cond} (h : w ∈ tables_1_2) : w ∈ lw_tbl := List.mem_append_right _ (List.mem_append_right _ (List.mem_append_left _ h))
theorem tc_3 {w : Cond} (h : w ∈ tables_1_3) : w ∈ lw_tbl := List.mem_append_right _ (List.mem_append_right _ (List.mem_append_right _ (List.mem_append_left _ h)))
theorem tc_4 {w : Cond} (h : w ∈ tables_1_4) : w ∈ lw_tbl := List.mem_append_right _ (List.mem_append_right _ (List.mem_append_right _ (List.mem_append_right _ (List.mem_append_left _ h))))
theorem tc_5 {w : Cond} (h : w ∈ tables_1_5) : w ∈ lw_tbl := List.mem_append_right _ (List.mem_append_right _ (List.mem_append_right _ (List.mem_append_right _ (List.mem_append_right _ (List.mem_append_left _ h)))))
theorem tc_6 {w : Cond} (h : w ∈ tables_1_6) : w ∈ lw_tbl := List.mem_append_right _ (List.mem_append_right _ (List.mem_append_right _ (List.mem_append_right _ (List.mem_append_right _ (List.mem_append_right _ (List.mem_append_left _ h))))))
theorem tc_7 {w : Cond} (h : w ∈ tables_1_7) : w ∈ lw_tbl := List.mem_append_right _ (List.mem_append_right _ (List.mem_append_right _ (List.mem_append_right _ (List.mem_append_right _ (List.mem_append_right _ (List.mem_append_right _ (List.mem_append_left _ h)))))))
theorem tc_8 {w : Cond} (h : w ∈ tables_1_8) : w ∈ lw_tbl := List.mem_append_right _ (List.mem_append_right _ (List.mem_append_right _ (List.mem_append_right _ (List.mem_append_right _ (List.mem_append_right _ (List.mem_append_right _ (List.mem_append_right _ (List.mem_append_left _ h))))))))
theorem tc_9 {w : Cond} (h : w ∈ tables_1_9) : w ∈ lw_tbl := List.mem_append_right _ (List.mem_append_right _ (List.mem_append_right _ (List.mem_append_right _ (List.mem_append_right _ (List.mem_append_right _ (List.mem_append_right _ (List.mem_append_right _ (List.mem_append_right _ (List.mem_append_left _ h)))))))))
theorem tc_10 {w : Cond} (h : w ∈ tables_1_10) : w ∈ lw_tbl := List.mem_append_right _ (List.mem_append_right _ (List.mem_append_right _ (List.mem_append_right _ (List.mem_append_right _ (List.mem_append_right _ (List.mem_append_right _ (List.mem_append_right _ (List.mem_append_right _ (List.mem_append_right _ h)))))))))
abbrev ws_ (y : MethodName) (cc : ByteArray) (n : Nat) (r : Option FieldType) : List Cond := .code y cc n r :: lw_all
theorem good_ws {y : MethodName} {cc : ByteArray} {n : Nat} {r : Option FieldType} (h : Cond.code y cc n r ∈ lw_all) : GoodIn lw_all (ws_ y cc n r) := by
  intro w hw
  rcases List.mem_cons.mp hw with rfl | hw
  · exact ⟨h, lw_good h⟩
  · exact ⟨hw, lw_good hw⟩
theorem good_S {own : String} {idx : Nat} {y : MethodName} {cc : ByteArray} {n : Nat} {r : Option FieldType} (h1 : Cond.methodLink own idx y ∈ lw_all) (h2 : Cond.static y ∈ lw_all) (h3 : Cond.initialized y.cls ∈ lw_all) (h4 : Cond.code y cc n r ∈ lw_all) : GoodIn lw_all (va_wsS own idx y (ws_ y cc n r)) := by
  intro w hw
  rcases List.mem_append.mp hw with hw | hw
  · rcases List.mem_cons.mp hw with rfl | hw
    · exact ⟨h1, lw_good h1⟩
    rcases List.mem_cons.mp hw with rfl | hw
    · exact ⟨h2, lw_good h2⟩
    rcases List.mem_cons.mp hw with rfl | hw
    · exact ⟨h3, lw_good h3⟩
    cases hw
  · exact good_ws h4 w hw
theorem good_V {own C : String} {idx : Nat} {y : MethodName} {cc : ByteArray} {n : Nat} {r : Option FieldType} (h1 : Cond.methodLink own idx y ∈ lw_all) (h2 : Cond.instanceMethod y ∈ lw_all) (h5 : Cond.selects C y y ∈ lw_all) (h3 : Cond.initialized C ∈ lw_all) (h4 : Cond.code y cc n r ∈ lw_all) : GoodIn lw_all (wsV own idx C y (ws_ y cc n r)) := by
  intro w hw
  rcases List.mem_append.mp hw with hw | hw
  · rcases List.mem_cons.mp hw with rfl | hw
    · exact ⟨h1, lw_good h1⟩
    rcases List.mem_cons.mp hw with rfl | hw
    · exact ⟨h2, lw_good h2⟩
    rcases List.mem_cons.mp hw with rfl | hw
    · exact ⟨h5, lw_good h5⟩
    rcases List.mem_cons.mp hw with rfl | hw
    · exact ⟨h3, lw_good h3⟩
    cases hw
  · exact good_ws h4 w hw
/-! the words of nest mates: they are no such words, and are carried by the starts -/
def nestW : Cond → Bool
  | .fieldLinkNest .. => true
  | .methodLinkNest .. => true
  | _ => false
def Nx (U : State) : Prop := ∀ w ∈ lw_tbl, nestW w = true → va_Nw w U
theorem Nx.same {u U : State} (h : u.vm = U.vm) (hN : Nx u) : Nx U := by
  intro w hw hn
  have h1 := hN w hw hn
  cases w <;> first | (cases hn; done) | exact va_Nw.same rfl h h1
theorem Nx.warm {s U : State} (hW : s.WarmedH U.vm) (hN : Nx s) : Nx U := by
  intro w hw hn
  have h1 := hN w hw hn
  cases w <;> first | (cases hn; done) | exact va_Nw.warmF hW h1 | exact va_Nw.warmM hW h1
theorem Nx.use {w : Cond} {U : State} {A : Array Value} (hN : Nx U) (hw : w ∈ lw_tbl) (hn : nestW w = true) : w.before A U = true := by
  have h1 := hN w hw hn
  cases w <;> first | (cases hn; done) | exact va_Nw.use rfl h1
theorem Nx.of {U : State} {A : Array Value} (h : ∀ w ∈ lw_tbl, w.before A U = true) : Nx U := by
  intro w hw hn
  have h1 := h w hw
  cases w <;> first | (cases hn; done) | exact va_Nw.of rfl h1
/-! the pure state of a group (an object and the arrays it owns), and what a walk carries -/
abbrev Gs : Type := (Nat → Int32) × (Nat → Int64) × (Nat → UInt64) × (Nat → Nat → Int32) × (Nat → Nat → Int64) × (Nat → Nat → UInt64) × (Nat → Option Nat)
def gI (g : Gs) (k : Nat) : Int32 := g.1 k
def gL (g : Gs) (k : Nat) : Int64 := g.2.1 k
def gD (g : Gs) (k : Nat) : UInt64 := g.2.2.1 k
def gIA (g : Gs) (k : Nat) : Nat → Int32 := g.2.2.2.1 k
def gLA (g : Gs) (k : Nat) : Nat → Int64 := g.2.2.2.2.1 k
def gDA (g : Gs) (k : Nat) : Nat → UInt64 := g.2.2.2.2.2.1 k
def gR (g : Gs) (k : Nat) : Option Nat := g.2.2.2.2.2.2 k
def sI (g : Gs) (k : Nat) (v : Int32) : Gs := (va_up g.1 k v, g.2)
def sL (g : Gs) (k : Nat) (v : Int64) : Gs := (g.1, va_up g.2.1 k v, g.2.2)
def sD (g : Gs) (k : Nat) (v : UInt64) : Gs := (g.1, g.2.1, va_up g.2.2.1 k v, g.2.2.2)
def sIA (g : Gs) (k : Nat) (v : Nat → Int32) : Gs := (g.1, g.2.1, g.2.2.1, va_up g.2.2.2.1 k v, g.2.2.2.2)
def sLA (g : Gs) (k : Nat) (v : Nat → Int64) : Gs := (g.1, g.2.1, g.2.2.1, g.2.2.2.1, va_up g.2.2.2.2.1 k v, g.2.2.2.2.2)
def sDA (g : Gs) (k : Nat) (v : Nat → UInt64) : Gs := (g.1, g.2.1, g.2.2.1, g.2.2.2.1, g.2.2.2.2.1, va_up g.2.2.2.2.2.1 k v, g.2.2.2.2.2.2)
def sR (g : Gs) (k : Nat) (v : Option Nat) : Gs := (g.1, g.2.1, g.2.2.1, g.2.2.2.1, g.2.2.2.2.1, g.2.2.2.2.2.1, va_up g.2.2.2.2.2.2 k v)
/-! partial programs -/
def grd {α : Type} (b : Bool) (e : Option α) : Option α := if b = true then e else none
def bnd {α β : Type} (x : Option α) (k : α → Option β) : Option β := match x with
  | none => none
  | some q => k q
theorem grd_some {α : Type} {b : Bool} {e : Option α} {r : α} (h : grd b e = some r) : b = true ∧ e = some r := by
  unfold grd at h
  split at h
  · exact ⟨by assumption, h⟩
  · cases h
theorem bnd_some {α β : Type} {x : Option α} {k : α → Option β} {r : β} (h : bnd x k = some r) : ∃ q, x = some q ∧ k q = some r := by
  cases x with
  | none => cases h
  | some q => exact ⟨q, rfl, h⟩
theorem iT {c : Prop} [Decidable c] {α : Type} {a b x : α} (h : c) (e : (if c then a else b) = x) : a = x := by rw [if_pos h] at e; exact e
theorem iF {c : Prop} [Decidable c] {α : Type} {a b x : α} (h : ¬ c) (e : (if c then a else b) = x) : b = x := by rw [if_neg h] at e; exact e
def inB (i : Int32) (n : Nat) : Bool := decide (¬ (i < 0 ∨ n ≤ i.toNatClampNeg))
theorem inB_ok {i : Int32} {n : Nat} (h : inB i n = true) : vp_in i n := by unfold vp_in; unfold inB at h; exact of_decide_eq_true h
def n64 (r : UInt64) : Bool := decide (r &&& 0x7fffffffffffffff ≤ 0x7ff0000000000000)
theorem n64_ok {r : UInt64} (h : n64 r = true) : vf_n64 r := by unfold vf_n64; unfold n64 at h; exact of_decide_eq_true h
def n32 (r : UInt32) : Bool := decide (r &&& 0x7fffffff ≤ 0x7f800000)
theorem n32_ok {r : UInt32} (h : n32 r = true) : vf_n32 r := by unfold vf_n32; unfold n32 at h; exact of_decide_eq_true h
def nzI (x : Int32) : Bool := decide (¬ x = 0)
theorem nzI_ok {x : Int32} (h : nzI x = true) : ¬ x = 0 := of_decide_eq_true h
def nzL (x : Int64) : Bool := decide (¬ x = 0)
theorem nzL_ok {x : Int64} (h : nzL x = true) : ¬ x = 0 := of_decide_eq_true h
/-! constants of the heap: the static array, the two texts, two statics of the JDK -/
def wordsT : String := "part  show  cam   bell  then  when  old   step  ticks floor ceil  rint  abs   least most  gcd   true  false truth byte  short char  int   long  float double"
def signsT : String := ":;,=?()[]+-*/%!<>"
def wordsB : List Int32 := [112, 97, 114, 116, 32, 32, 115, 104, 111, 119, 32, 32, 99, 97, 109, 32, 32, 32, 98, 101, 108, 108, 32, 32, 116, 104, 101, 110, 32, 32, 119, 104, 101, 110, 32, 32, 111, 108, 100, 32, 32, 32, 115, 116, 101, 112, 32, 32, 116, 105, 99, 107, 115, 32, 102, 108, 111, 111, 114, 32, 99, 101, 105, 108, 32, 32, 114, 105, 110, 116, 32, 32, 97, 98, 115, 32, 32, 32, 108, 101, 97, 115, 116, 32, 109, 111, 115, 116, 32, 32, 103, 99, 100, 32, 32, 32, 116, 114, 117, 101, 32, 32, 102, 97, 108, 115, 101, 32, 116, 114, 117, 116, 104, 32, 98, 121, 116, 101, 32, 32, 115, 104, 111, 114, 116, 32, 99, 104, 97, 114, 32, 32, 105, 110, 116, 32, 32, 32, 108, 111, 110, 103, 32, 32, 102, 108, 111, 97, 116, 32, 100, 111, 117, 98, 108, 101]
def signsB : List Int32 := [58, 59, 44, 61, 63, 40, 41, 91, 93, 43, 45, 42, 47, 37, 33, 60, 62]
def daysL : List Int32 := [0, 31, 59, 90, 120, 151, 181, 212, 243, 273, 304, 334]
def Kc (t : Nat) (adK adV : Nat → Nat) (A : Nat → Prop) (U : State) (H : Heap) : Prop :=
  va_Z "TurningHall" "DAYS_AHEAD" "[I" (.ref t) A U H ∧ va_T .int t 12 (fun j => .int (daysL.getD j 0)) A U H ∧ vk_S 2 [156, 17] [wordsB, signsB] adK adV A U H ∧ vk_R "TurningHall$Scanner" 90 wordsT (adK 0) U ∧ vk_R "TurningHall$Scanner" 98 signsT (adK 1) U ∧ va_Z "java/lang/String" "COMPACT_STRINGS" "Z" (.int 1) A U H ∧ va_Zq "jdk/internal/util/Preconditions" "SIOOBE_FORMATTER" "Ljava/util/function/BiFunction;" A U H
/-- what all walks share: class numbers and slots, the static array's address, the texts' and their bytes' -/
abbrev Dx : Type := va_G × Nat × (Nat → Nat) × (Nat → Nat)
def Kq (D : Dx) (A : Nat → Prop) (U : State) : Prop := Kc D.2.1 D.2.2.1 D.2.2.2 A U U.heap
theorem Kq.to {D : Dx} {A B : Nat → Prop} {s U : State} {H : Heap} (h : Kq D A s) (hW : s.WarmedH U.vm) (hU : U.heap = H) (hk : ∀ a : Nat, a < s.heap.size → ¬ A a → H[a]? = s.heap[a]?) (hAB : ∀ q, B q → A q) : Kq D B U := by
  obtain ⟨h1, h2, h3, h4, h5, h6, h7⟩ := h
  subst hU
  exact ⟨((h1.kept hk).narrow hAB).moved hW.alike, ((h2.kept hk).narrow hAB).moved hW.alike, ((h3.kept hk).narrow hAB).moved hW.alike, h4.warm hW, h5.warm hW, ((h6.kept hk).narrow hAB).moved hW.alike, ((h7.kept hk).narrow hAB).moved hW.alike⟩
theorem Kq.same {D : Dx} {A : Nat → Prop} {u U : State} (h : Kq D A u) (hv : u.vm = U.vm) (hh : u.heap = U.heap) : Kq D A U := by
  obtain ⟨h1, h2, h3, h4, h5, h6, h7⟩ := h
  rw [hh] at h1 h2 h3 h6 h7
  have ha : u.vm.Alike U.vm := by rw [hv]; exact Vm.Alike.refl _
  exact ⟨h1.moved ha, h2.moved ha, h3.moved ha, h4.same hv.symm, h5.same hv.symm, h6.moved ha, h7.moved ha⟩
/-! what a walk carries: the method's fixed facts, the world -/
def Cx (p : Program) (s : State) (m : MethodId) (args : Array Value) (meth : Method) (c : Code) (cc : ByteArray) (ret : Option FieldType) (nL : Nat) (own : String) (ws : List Cond) : Prop :=
  p.tables.exec = Jvm.exec ∧ c.code = cc ∧ meth.sig.returnType = ret ∧ c.maxLocals = nL ∧ s.vm.findClass own = some m.cls ∧ (∀ w ∈ ws, w.before args s = true) ∧ meth.locks = false
def Hx (D : Dx) (tys : List (ClassId × FieldType)) (A : Nat → Prop) (s : State) (H : Heap) (locs : List Loc) (w : va_W) : Prop :=
  va_K D.1 vwCl tys s ∧ va_P D.1 vwCl w H ∧ va_D A w ∧ va_S A s.heap H locs ∧ (∀ q : Nat, s.heap.size ≤ q → A q) ∧ Nx s ∧ Kq D A s
def PC (D : Dx) (tys : List (ClassId × FieldType)) (av : List Value) (w : va_W) (sz : Nat) : Array Value → State → Prop :=
  va_Pc av (fun U => U.heap.size = sz ∧ va_P D.1 vwCl w U.heap ∧ va_K D.1 vwCl tys U ∧ va_D (fun _ => True) w ∧ Nx U ∧ Kq D (va_A w sz) U)
def Bx (D : Dx) (A : Nat → Prop) (w : va_W) : Unit → State → Prop := fun _ t => va_P D.1 vwCl w t.heap ∧ va_D A w
abbrev QI (D : Dx) (A : Nat → Prop) (w : va_W) (v : Int32) : Array Value → State → Outcome → State → Prop := va_Qi (fun r (_ : Unit) => r = v) (Bx D A w) A
abbrev QL (D : Dx) (A : Nat → Prop) (w : va_W) (v : Int64) : Array Value → State → Outcome → State → Prop := va_Ql (fun r (_ : Unit) => r = v) (Bx D A w) A
abbrev QD (D : Dx) (A : Nat → Prop) (w : va_W) (v : UInt64) : Array Value → State → Outcome → State → Prop := va_Qd (fun r (_ : Unit) => r = v) (Bx D A w) A
abbrev QF (D : Dx) (A : Nat → Prop) (w : va_W) (v : UInt32) : Array Value → State → Outcome → State → Prop := va_Qf (fun r (_ : Unit) => r = v) (Bx D A w) A
abbrev QV (D : Dx) (A : Nat → Prop) (w : va_W) : Array Value → State → Outcome → State → Prop := va_Qv (fun (_ : Unit) => True) (Bx D A w) A
theorem PC_blind {D : Dx} {tys : List (ClassId × FieldType)} {av : List Value} {w : va_W} {sz : Nat} : FrameBlind (PC D tys av w sz) := by
  intro a U g mk q
  obtain ⟨q0, q1, qP, qK, qD, qN, qC⟩ := q
  exact ⟨q0, q1, qP, va_K.moved (u := U) (U := U.calling g mk a) (Vm.Alike.refl U.vm) qK, qD, Nx.same (u := U) (U := U.calling g mk a) rfl qN, Kq.same (u := U) (U := U.calling g mk a) qC rfl rfl⟩
theorem PC_at {D : Dx} {tys : List (ClassId × FieldType)} {av : List Value} {w : va_W} {s : State} {H : Heap} {A : Nat → Prop} (hK : va_K D.1 vwCl tys s) (hP : va_P D.1 vwCl w H) {A0 : Nat → Prop} {locs : List Loc} (hD : va_D A w) (hN : Nx s ∧ Kq D A0 s) (hS : va_S A0 s.heap H locs) (hF : ∀ q, va_A w H.size q → A0 q) : ∀ U : State, U.heap = H → s.WarmedH U.vm → PC D tys av w H.size av.toArray U := by
  intro U hU hW
  exact ⟨rfl, by rw [hU], by rw [hU]; exact hP, va_K.moved hW.alike hK, hD.weaken (fun _ _ _ _ => trivial), hN.1.warm hW, hN.2.to hW hU hS.2.1 hF⟩
/-- a world w, the callee's part wC of it, that part afterwards w1, the whole afterwards w2 -/
def Rp (w wC w1 w2 : va_W) (isC isR pm : List Nat) (wr : va_W) : Prop :=
  isC.map (fun i => w[i]?) = wC.map some ∧ isR.map (fun i => w[i]?) = wr.map some ∧ va_nd isR = true ∧ (∀ i ∈ isR, i ∉ isC) ∧ pm.map (fun i => (wr ++ w1)[i]?) = w2.map some ∧ va_nd pm = true
theorem map_filterMap {α : Type} {ws ws' : List α} {is : List Nat} (h : is.map (fun i => ws[i]?) = ws'.map some) : is.filterMap (fun i => ws[i]?) = ws' := by
  induction is generalizing ws' with
  | nil => cases ws' with
    | nil => rfl
    | cons a l => cases h
  | cons i is ih => cases ws' with
    | nil => cases h
    | cons a l =>
      simp only [List.map_cons, List.cons.injEq] at h
      rw [List.filterMap_cons, h.1, ih h.2]
theorem free_of {D : Dx} {tys : List (ClassId × FieldType)} {A : Nat → Prop} {s : State} {H : Heap} {locs : List Loc} {w wC : va_W} {isC : List Nat} (X : Hx D tys A s H locs w) (hC : isC.map (fun i => w[i]?) = wC.map some) : ∀ q, va_A wC H.size q → A q :=
  va_free X.2.2.1 X.2.2.2.1 X.2.2.2.2.1 isC hC
theorem free_all {D : Dx} {tys : List (ClassId × FieldType)} {A : Nat → Prop} {s : State} {H : Heap} {locs : List Loc} {w : va_W} (X : Hx D tys A s H locs w) : ∀ q, va_A w H.size q → A q := by
  intro q h
  rcases h with ⟨k, e, h⟩ | h
  · exact X.2.2.1.2 k (q, e) h
  · exact X.2.2.2.2.1 q (Nat.le_trans X.2.2.2.1.1 h)
/-- the world behind a call -/
theorem Hx_after {D : Dx} {tys : List (ClassId × FieldType)} {A : Nat → Prop} {s t : State} {H H1 : Heap} {locs locs1 : List Loc} {w wC w1 w2 : va_W} {isC isR pm : List Nat} {wr : va_W} (X : Hx D tys A s H locs w) (hR : Rp w wC w1 w2 isC isR pm wr) (ht : t.heap = H1) (hB : Bx D (va_A wC H.size) w1 () t) (hk : ∀ q : Nat, q < H.size → ¬ va_A wC H.size q → H1[q]? = H[q]?) (hS : va_S A s.heap H1 locs1) : Hx D tys A s H1 locs1 w2 := by
  obtain ⟨hK, hP, hD, hS0, hA, hN⟩ := id X
  obtain ⟨r1, r2, r3, r4, r5, r6⟩ := hR
  obtain ⟨hP1, hD1⟩ := hB
  rw [ht] at hP1
  obtain ⟨hP2, hD2⟩ := va_join hP hD isC isR r1 r2 r3 r4 hk (free_of X r1) hP1 hD1
  exact ⟨hK, hP2.sub pm (map_filterMap r5), hD2.sub pm r6 r5, hS, hA, hN⟩
theorem Hx_after_all {D : Dx} {tys : List (ClassId × FieldType)} {A : Nat → Prop} {s t : State} {H H1 : Heap} {locs locs1 : List Loc} {w w1 : va_W} (X : Hx D tys A s H locs w) (ht : t.heap = H1) (hB : Bx D (va_A w H.size) w1 () t) (hS : va_S A s.heap H1 locs1) : Hx D tys A s H1 locs1 w1 := by
  obtain ⟨hP1, hD1⟩ := hB
  rw [ht] at hP1
  exact ⟨X.1, hP1, hD1.weaken (fun k q hk h => free_all X _ h), hS, X.2.2.2.2⟩
theorem Hx_after_none {D : Dx} {tys : List (ClassId × FieldType)} {A : Nat → Prop} {s : State} {H H1 : Heap} {locs locs1 : List Loc} {w : va_W} (X : Hx D tys A s H locs w) (hk : ∀ q : Nat, q < H.size → ¬ va_A [] H.size q → H1[q]? = H[q]?) (hS : va_S A s.heap H1 locs1) : Hx D tys A s H1 locs1 w := by
  refine ⟨X.1, X.2.1.kept (fun k x hx => hk x.1 ((X.2.1 k x hx).lt) ?_), X.2.2.1, hS, X.2.2.2.2⟩
  intro h
  rcases h with ⟨k', e, h⟩ | h
  · simp at h
  · exact absurd ((X.2.1 k x hx).lt) (Nat.not_lt.mpr h)
/-- the start of a body -/
theorem Hx_start {D : Dx} {tys : List (ClassId × FieldType)} {w : va_W} {s : State} (hP : va_P D.1 vwCl w s.heap) (hK : va_K D.1 vwCl tys s) (hD : va_D (fun _ => True) w) (hN : Nx s ∧ Kq D (va_A w s.heap.size) s) : Hx D tys (va_A w s.heap.size) s s.heap [] w :=
  ⟨hK, hP, hD.self, va_S.rf, fun _ h => Or.inr h, hN⟩
/-! calls: a static one, one of an object's own; the answer's kinds -/
section CallRows
variable {p : Program} {l : Launch} {e : Env} {R : Room} {s : State} {m : MethodId} {args : Array Value} {below : List Frame} {meth : Method} {c : Code} {H : Heap} {locs : List Loc} {Q : State → Prop} {cc : ByteArray} {ret : Option FieldType} {nL : Nat} {own : String} {D : Dx} {tys : List (ClassId × FieldType)} {A : Nat → Prop} {w : va_W} {cells slots pc : Nat} {ls : Array Slot} {rest st0 As : List Value} {y : MethodName} {bytes : ByteArray} {maxL n idx : Nat} {retC : Option FieldType} {rm : Room} {tysC : List (ClassId × FieldType)} {wC w1 : va_W} {A' : Nat → Prop}
theorem cS_i (C : Cx p s m args meth c cc ret nL own lw_all) (X : Hx D tys A s H locs w) {v : Int32} (hM : Met l y (ws_ y bytes maxL retC) rm (PC D tysC As wC H.size) (QI D (va_A wC H.size) w1 v) 0 0 (va_A wC H.size)) (cw : CallB R s args own idx y bytes maxL retC (ws_ y bytes maxL retC) rm 0 0 n ∧ (Cond.static y).before args s = true) (hKc : va_K D.1 vwCl tysC s) (hPc : va_P D.1 vwCl wC H) (hDc : va_D A' wC) (hFc : ∀ q, va_A wC H.size q → A q) (hls : ls.size = nL) (hn : As.length = n) (hst : st0 = As.reverse ++ rest) (hW : (rest.map fun v => v.category).sum ≤ 8) (hdg : decode cc pc = .ok (.invokestatic idx, 3)) (hcs : cells + 0 ≤ R.cells ∧ slots + 0 ≤ R.slots) (kk : ∀ (t : State) (H1 : Heap) (locs1 : List Loc), t.heap = H1 → Bx D (va_A wC H.size) w1 () t → (∀ q : Nat, q < H.size → ¬ va_A wC H.size q → H1[q]? = H[q]?) → va_S A s.heap H1 locs1 → W p l e R s m args below meth c H1 locs1 cells slots Q (F0 m (pc + 3) ls (.int v :: rest))) : W p l e R s m args below meth c H locs cells slots Q (F0 m pc ls st0) := by
  refine va_calli (va_runS (As := As) (rest := rest) ⟨C.1, C.2.1, C.2.2.2.1, C.2.2.2.2.1, C.2.2.2.2.2.1⟩ hM cw ⟨PC_blind, PC_at hKc hPc hDc X.2.2.2.2.2 X.2.2.2.1 hFc⟩ rfl hn hls hst (lv_room hW) hdg hcs) X.2.2.2.1 (fun q _ h => hFc q h) hFc (fun r u t H1 locs1 ht hvm hw hB hz1 hk1 hS => ?_)
  cases u
  cases hw
  exact kk t H1 locs1 ht hB hk1 hS
theorem cV_i {Cn : String} {b : Nat} (C : Cx p s m args meth c cc ret nL own lw_all) (X : Hx D tys A s H locs w) {v : Int32} (hM : Met l y (ws_ y bytes maxL retC) rm (PC D tysC (.ref b :: As) wC H.size) (QI D (va_A wC H.size) w1 v) 0 0 (va_A wC H.size)) (cw : CallW R s args own Cn idx y bytes maxL retC (ws_ y bytes maxL retC) rm 0 0 n) (hrv : ∃ cellB : Cell, H[b]? = some cellB ∧ cellB.vm.isStatics = false ∧ s.vm.findClass Cn = some cellB.cls) (hKc : va_K D.1 vwCl tysC s) (hPc : va_P D.1 vwCl wC H) (hDc : va_D A' wC) (hFc : ∀ q, va_A wC H.size q → A q) (hls : ls.size = nL) (hn : As.length = n) (hst : st0 = As.reverse ++ .ref b :: rest) (hW : (rest.map fun v => v.category).sum ≤ 8) (hdg : decode cc pc = .ok (.invokevirtual idx, 3)) (hcs : cells + 0 ≤ R.cells ∧ slots + 0 ≤ R.slots) (kk : ∀ (t : State) (H1 : Heap) (locs1 : List Loc), t.heap = H1 → Bx D (va_A wC H.size) w1 () t → (∀ q : Nat, q < H.size → ¬ va_A wC H.size q → H1[q]? = H[q]?) → va_S A s.heap H1 locs1 → W p l e R s m args below meth c H1 locs1 cells slots Q (F0 m (pc + 3) ls (.int v :: rest))) : W p l e R s m args below meth c H locs cells slots Q (F0 m pc ls st0) := by
  refine va_calli (va_runV (As := As) (rest := rest) ⟨C.1, C.2.1, C.2.2.2.1, C.2.2.2.2.1, C.2.2.2.2.2.1⟩ hM cw ⟨PC_blind, hrv, PC_at hKc hPc hDc X.2.2.2.2.2 X.2.2.2.1 hFc⟩ rfl hn hls hst (lv_room hW) hdg hcs) X.2.2.2.1 (fun q _ h => hFc q h) hFc (fun r u t H1 locs1 ht hvm hw hB hz1 hk1 hS => ?_)
  cases u
  cases hw
  exact kk t H1 locs1 ht hB hk1 hS
theorem cS_l (C : Cx p s m args meth c cc ret nL own lw_all) (X : Hx D tys A s H locs w) {v : Int64} (hM : Met l y (ws_ y bytes maxL retC) rm (PC D tysC As wC H.size) (QL D (va_A wC H.size) w1 v) 0 0 (va_A wC H.size)) (cw : CallB R s args own idx y bytes maxL retC (ws_ y bytes maxL retC) rm 0 0 n ∧ (Cond.static y).before args s = true) (hKc : va_K D.1 vwCl tysC s) (hPc : va_P D.1 vwCl wC H) (hDc : va_D A' wC) (hFc : ∀ q, va_A wC H.size q → A q) (hls : ls.size = nL) (hn : As.length = n) (hst : st0 = As.reverse ++ rest) (hW : (rest.map fun v => v.category).sum ≤ 8) (hdg : decode cc pc = .ok (.invokestatic idx, 3)) (hcs : cells + 0 ≤ R.cells ∧ slots + 0 ≤ R.slots) (kk : ∀ (t : State) (H1 : Heap) (locs1 : List Loc), t.heap = H1 → Bx D (va_A wC H.size) w1 () t → (∀ q : Nat, q < H.size → ¬ va_A wC H.size q → H1[q]? = H[q]?) → va_S A s.heap H1 locs1 → W p l e R s m args below meth c H1 locs1 cells slots Q (F0 m (pc + 3) ls (.long v :: rest))) : W p l e R s m args below meth c H locs cells slots Q (F0 m pc ls st0) := by
  refine va_calll (va_runS (As := As) (rest := rest) ⟨C.1, C.2.1, C.2.2.2.1, C.2.2.2.2.1, C.2.2.2.2.2.1⟩ hM cw ⟨PC_blind, PC_at hKc hPc hDc X.2.2.2.2.2 X.2.2.2.1 hFc⟩ rfl hn hls hst (lv_room hW) hdg hcs) X.2.2.2.1 (fun q _ h => hFc q h) hFc (fun r u t H1 locs1 ht hvm hw hB hz1 hk1 hS => ?_)
  cases u
  cases hw
  exact kk t H1 locs1 ht hB hk1 hS
theorem cV_l {Cn : String} {b : Nat} (C : Cx p s m args meth c cc ret nL own lw_all) (X : Hx D tys A s H locs w) {v : Int64} (hM : Met l y (ws_ y bytes maxL retC) rm (PC D tysC (.ref b :: As) wC H.size) (QL D (va_A wC H.size) w1 v) 0 0 (va_A wC H.size)) (cw : CallW R s args own Cn idx y bytes maxL retC (ws_ y bytes maxL retC) rm 0 0 n) (hrv : ∃ cellB : Cell, H[b]? = some cellB ∧ cellB.vm.isStatics = false ∧ s.vm.findClass Cn = some cellB.cls) (hKc : va_K D.1 vwCl tysC s) (hPc : va_P D.1 vwCl wC H) (hDc : va_D A' wC) (hFc : ∀ q, va_A wC H.size q → A q) (hls : ls.size = nL) (hn : As.length = n) (hst : st0 = As.reverse ++ .ref b :: rest) (hW : (rest.map fun v => v.category).sum ≤ 8) (hdg : decode cc pc = .ok (.invokevirtual idx, 3)) (hcs : cells + 0 ≤ R.cells ∧ slots + 0 ≤ R.slots) (kk : ∀ (t : State) (H1 : Heap) (locs1 : List Loc), t.heap = H1 → Bx D (va_A wC H.size) w1 () t → (∀ q : Nat, q < H.size → ¬ va_A wC H.size q → H1[q]? = H[q]?) → va_S A s.heap H1 locs1 → W p l e R s m args below meth c H1 locs1 cells slots Q (F0 m (pc + 3) ls (.long v :: rest))) : W p l e R s m args below meth c H locs cells slots Q (F0 m pc ls st0) := by
  refine va_calll (va_runV (As := As) (rest := rest) ⟨C.1, C.2.1, C.2.2.2.1, C.2.2.2.2.1, C.2.2.2.2.2.1⟩ hM cw ⟨PC_blind, hrv, PC_at hKc hPc hDc X.2.2.2.2.2 X.2.2.2.1 hFc⟩ rfl hn hls hst (lv_room hW) hdg hcs) X.2.2.2.1 (fun q _ h => hFc q h) hFc (fun r u t H1 locs1 ht hvm hw hB hz1 hk1 hS => ?_)
  cases u
  cases hw
  exact kk t H1 locs1 ht hB hk1 hS
theorem cS_d (C : Cx p s m args meth c cc ret nL own lw_all) (X : Hx D tys A s H locs w) {v : UInt64} (hM : Met l y (ws_ y bytes maxL retC) rm (PC D tysC As wC H.size) (QD D (va_A wC H.size) w1 v) 0 0 (va_A wC H.size)) (cw : CallB R s args own idx y bytes maxL retC (ws_ y bytes maxL retC) rm 0 0 n ∧ (Cond.static y).before args s = true) (hKc : va_K D.1 vwCl tysC s) (hPc : va_P D.1 vwCl wC H) (hDc : va_D A' wC) (hFc : ∀ q, va_A wC H.size q → A q) (hls : ls.size = nL) (hn : As.length = n) (hst : st0 = As.reverse ++ rest) (hW : (rest.map fun v => v.category).sum ≤ 8) (hdg : decode cc pc = .ok (.invokestatic idx, 3)) (hcs : cells + 0 ≤ R.cells ∧ slots + 0 ≤ R.slots) (kk : ∀ (t : State) (H1 : Heap) (locs1 : List Loc), t.heap = H1 → Bx D (va_A wC H.size) w1 () t → (∀ q : Nat, q < H.size → ¬ va_A wC H.size q → H1[q]? = H[q]?) → va_S A s.heap H1 locs1 → W p l e R s m args below meth c H1 locs1 cells slots Q (F0 m (pc + 3) ls (.double v :: rest))) : W p l e R s m args below meth c H locs cells slots Q (F0 m pc ls st0) := by
  refine va_calld (va_runS (As := As) (rest := rest) ⟨C.1, C.2.1, C.2.2.2.1, C.2.2.2.2.1, C.2.2.2.2.2.1⟩ hM cw ⟨PC_blind, PC_at hKc hPc hDc X.2.2.2.2.2 X.2.2.2.1 hFc⟩ rfl hn hls hst (lv_room hW) hdg hcs) X.2.2.2.1 (fun q _ h => hFc q h) hFc (fun r u t H1 locs1 ht hvm hw hB hz1 hk1 hS => ?_)
  cases u
  cases hw
  exact kk t H1 locs1 ht hB hk1 hS
theorem cV_d {Cn : String} {b : Nat} (C : Cx p s m args meth c cc ret nL own lw_all) (X : Hx D tys A s H locs w) {v : UInt64} (hM : Met l y (ws_ y bytes maxL retC) rm (PC D tysC (.ref b :: As) wC H.size) (QD D (va_A wC H.size) w1 v) 0 0 (va_A wC H.size)) (cw : CallW R s args own Cn idx y bytes maxL retC (ws_ y bytes maxL retC) rm 0 0 n) (hrv : ∃ cellB : Cell, H[b]? = some cellB ∧ cellB.vm.isStatics = false ∧ s.vm.findClass Cn = some cellB.cls) (hKc : va_K D.1 vwCl tysC s) (hPc : va_P D.1 vwCl wC H) (hDc : va_D A' wC) (hFc : ∀ q, va_A wC H.size q → A q) (hls : ls.size = nL) (hn : As.length = n) (hst : st0 = As.reverse ++ .ref b :: rest) (hW : (rest.map fun v => v.category).sum ≤ 8) (hdg : decode cc pc = .ok (.invokevirtual idx, 3)) (hcs : cells + 0 ≤ R.cells ∧ slots + 0 ≤ R.slots) (kk : ∀ (t : State) (H1 : Heap) (locs1 : List Loc), t.heap = H1 → Bx D (va_A wC H.size) w1 () t → (∀ q : Nat, q < H.size → ¬ va_A wC H.size q → H1[q]? = H[q]?) → va_S A s.heap H1 locs1 → W p l e R s m args below meth c H1 locs1 cells slots Q (F0 m (pc + 3) ls (.double v :: rest))) : W p l e R s m args below meth c H locs cells slots Q (F0 m pc ls st0) := by
  refine va_calld (va_runV (As := As) (rest := rest) ⟨C.1, C.2.1, C.2.2.2.1, C.2.2.2.2.1, C.2.2.2.2.2.1⟩ hM cw ⟨PC_blind, hrv, PC_at hKc hPc hDc X.2.2.2.2.2 X.2.2.2.1 hFc⟩ rfl hn hls hst (lv_room hW) hdg hcs) X.2.2.2.1 (fun q _ h => hFc q h) hFc (fun r u t H1 locs1 ht hvm hw hB hz1 hk1 hS => ?_)
  cases u
  cases hw
  exact kk t H1 locs1 ht hB hk1 hS
theorem cS_f (C : Cx p s m args meth c cc ret nL own lw_all) (X : Hx D tys A s H locs w) {v : UInt32} (hM : Met l y (ws_ y bytes maxL retC) rm (PC D tysC As wC H.size) (QF D (va_A wC H.size) w1 v) 0 0 (va_A wC H.size)) (cw : CallB R s args own idx y bytes maxL retC (ws_ y bytes maxL retC) rm 0 0 n ∧ (Cond.static y).before args s = true) (hKc : va_K D.1 vwCl tysC s) (hPc : va_P D.1 vwCl wC H) (hDc : va_D A' wC) (hFc : ∀ q, va_A wC H.size q → A q) (hls : ls.size = nL) (hn : As.length = n) (hst : st0 = As.reverse ++ rest) (hW : (rest.map fun v => v.category).sum ≤ 8) (hdg : decode cc pc = .ok (.invokestatic idx, 3)) (hcs : cells + 0 ≤ R.cells ∧ slots + 0 ≤ R.slots) (kk : ∀ (t : State) (H1 : Heap) (locs1 : List Loc), t.heap = H1 → Bx D (va_A wC H.size) w1 () t → (∀ q : Nat, q < H.size → ¬ va_A wC H.size q → H1[q]? = H[q]?) → va_S A s.heap H1 locs1 → W p l e R s m args below meth c H1 locs1 cells slots Q (F0 m (pc + 3) ls (.float v :: rest))) : W p l e R s m args below meth c H locs cells slots Q (F0 m pc ls st0) := by
  refine va_callf (va_runS (As := As) (rest := rest) ⟨C.1, C.2.1, C.2.2.2.1, C.2.2.2.2.1, C.2.2.2.2.2.1⟩ hM cw ⟨PC_blind, PC_at hKc hPc hDc X.2.2.2.2.2 X.2.2.2.1 hFc⟩ rfl hn hls hst (lv_room hW) hdg hcs) X.2.2.2.1 (fun q _ h => hFc q h) hFc (fun r u t H1 locs1 ht hvm hw hB hz1 hk1 hS => ?_)
  cases u
  cases hw
  exact kk t H1 locs1 ht hB hk1 hS
theorem cV_f {Cn : String} {b : Nat} (C : Cx p s m args meth c cc ret nL own lw_all) (X : Hx D tys A s H locs w) {v : UInt32} (hM : Met l y (ws_ y bytes maxL retC) rm (PC D tysC (.ref b :: As) wC H.size) (QF D (va_A wC H.size) w1 v) 0 0 (va_A wC H.size)) (cw : CallW R s args own Cn idx y bytes maxL retC (ws_ y bytes maxL retC) rm 0 0 n) (hrv : ∃ cellB : Cell, H[b]? = some cellB ∧ cellB.vm.isStatics = false ∧ s.vm.findClass Cn = some cellB.cls) (hKc : va_K D.1 vwCl tysC s) (hPc : va_P D.1 vwCl wC H) (hDc : va_D A' wC) (hFc : ∀ q, va_A wC H.size q → A q) (hls : ls.size = nL) (hn : As.length = n) (hst : st0 = As.reverse ++ .ref b :: rest) (hW : (rest.map fun v => v.category).sum ≤ 8) (hdg : decode cc pc = .ok (.invokevirtual idx, 3)) (hcs : cells + 0 ≤ R.cells ∧ slots + 0 ≤ R.slots) (kk : ∀ (t : State) (H1 : Heap) (locs1 : List Loc), t.heap = H1 → Bx D (va_A wC H.size) w1 () t → (∀ q : Nat, q < H.size → ¬ va_A wC H.size q → H1[q]? = H[q]?) → va_S A s.heap H1 locs1 → W p l e R s m args below meth c H1 locs1 cells slots Q (F0 m (pc + 3) ls (.float v :: rest))) : W p l e R s m args below meth c H locs cells slots Q (F0 m pc ls st0) := by
  refine va_callf (va_runV (As := As) (rest := rest) ⟨C.1, C.2.1, C.2.2.2.1, C.2.2.2.2.1, C.2.2.2.2.2.1⟩ hM cw ⟨PC_blind, hrv, PC_at hKc hPc hDc X.2.2.2.2.2 X.2.2.2.1 hFc⟩ rfl hn hls hst (lv_room hW) hdg hcs) X.2.2.2.1 (fun q _ h => hFc q h) hFc (fun r u t H1 locs1 ht hvm hw hB hz1 hk1 hS => ?_)
  cases u
  cases hw
  exact kk t H1 locs1 ht hB hk1 hS
theorem cS_v (C : Cx p s m args meth c cc ret nL own lw_all) (X : Hx D tys A s H locs w) (hM : Met l y (ws_ y bytes maxL retC) rm (PC D tysC As wC H.size) (QV D (va_A wC H.size) w1) 0 0 (va_A wC H.size)) (cw : CallB R s args own idx y bytes maxL retC (ws_ y bytes maxL retC) rm 0 0 n ∧ (Cond.static y).before args s = true) (hKc : va_K D.1 vwCl tysC s) (hPc : va_P D.1 vwCl wC H) (hDc : va_D A' wC) (hFc : ∀ q, va_A wC H.size q → A q) (hls : ls.size = nL) (hn : As.length = n) (hst : st0 = As.reverse ++ rest) (hW : (rest.map fun v => v.category).sum ≤ 8) (hdg : decode cc pc = .ok (.invokestatic idx, 3)) (hcs : cells + 0 ≤ R.cells ∧ slots + 0 ≤ R.slots) (kk : ∀ (t : State) (H1 : Heap) (locs1 : List Loc), t.heap = H1 → Bx D (va_A wC H.size) w1 () t → (∀ q : Nat, q < H.size → ¬ va_A wC H.size q → H1[q]? = H[q]?) → va_S A s.heap H1 locs1 → W p l e R s m args below meth c H1 locs1 cells slots Q (F0 m (pc + 3) ls rest)) : W p l e R s m args below meth c H locs cells slots Q (F0 m pc ls st0) := by
  refine va_callv (va_runS (As := As) (rest := rest) ⟨C.1, C.2.1, C.2.2.2.1, C.2.2.2.2.1, C.2.2.2.2.2.1⟩ hM cw ⟨PC_blind, PC_at hKc hPc hDc X.2.2.2.2.2 X.2.2.2.1 hFc⟩ rfl hn hls hst (lv_room hW) hdg hcs) X.2.2.2.1 (fun q _ h => hFc q h) hFc (fun u t H1 locs1 ht hvm hw hB hz1 hk1 hS => ?_)
  cases u
  exact kk t H1 locs1 ht hB hk1 hS
theorem cV_v {Cn : String} {b : Nat} (C : Cx p s m args meth c cc ret nL own lw_all) (X : Hx D tys A s H locs w) (hM : Met l y (ws_ y bytes maxL retC) rm (PC D tysC (.ref b :: As) wC H.size) (QV D (va_A wC H.size) w1) 0 0 (va_A wC H.size)) (cw : CallW R s args own Cn idx y bytes maxL retC (ws_ y bytes maxL retC) rm 0 0 n) (hrv : ∃ cellB : Cell, H[b]? = some cellB ∧ cellB.vm.isStatics = false ∧ s.vm.findClass Cn = some cellB.cls) (hKc : va_K D.1 vwCl tysC s) (hPc : va_P D.1 vwCl wC H) (hDc : va_D A' wC) (hFc : ∀ q, va_A wC H.size q → A q) (hls : ls.size = nL) (hn : As.length = n) (hst : st0 = As.reverse ++ .ref b :: rest) (hW : (rest.map fun v => v.category).sum ≤ 8) (hdg : decode cc pc = .ok (.invokevirtual idx, 3)) (hcs : cells + 0 ≤ R.cells ∧ slots + 0 ≤ R.slots) (kk : ∀ (t : State) (H1 : Heap) (locs1 : List Loc), t.heap = H1 → Bx D (va_A wC H.size) w1 () t → (∀ q : Nat, q < H.size → ¬ va_A wC H.size q → H1[q]? = H[q]?) → va_S A s.heap H1 locs1 → W p l e R s m args below meth c H1 locs1 cells slots Q (F0 m (pc + 3) ls rest)) : W p l e R s m args below meth c H locs cells slots Q (F0 m pc ls st0) := by
  refine va_callv (va_runV (As := As) (rest := rest) ⟨C.1, C.2.1, C.2.2.2.1, C.2.2.2.2.1, C.2.2.2.2.2.1⟩ hM cw ⟨PC_blind, hrv, PC_at hKc hPc hDc X.2.2.2.2.2 X.2.2.2.1 hFc⟩ rfl hn hls hst (lv_room hW) hdg hcs) X.2.2.2.1 (fun q _ h => hFc q h) hFc (fun u t H1 locs1 ht hvm hw hB hz1 hk1 hS => ?_)
  cases u
  exact kk t H1 locs1 ht hB hk1 hS
end CallRows
/-! a callee without a world -/
theorem eP {D : Dx} {H : Heap} : va_P D.1 vwCl [] H := fun k q h => by simp at h
theorem eD {A : Nat → Prop} : va_D A [] := ⟨fun i j p q h => by simp at h, fun k q h => by simp at h⟩
theorem eK {D : Dx} {tys : List (ClassId × FieldType)} {A : Nat → Prop} {s : State} {H : Heap} {locs : List Loc} {w : va_W} (X : Hx D tys A s H locs w) : va_K D.1 vwCl [] s := ⟨X.1.1, fun k q h => by simp at h⟩
theorem eF {D : Dx} {tys : List (ClassId × FieldType)} {A : Nat → Prop} {s : State} {H : Heap} {locs : List Loc} {w : va_W} (X : Hx D tys A s H locs w) : ∀ q, va_A [] H.size q → A q := by
  intro q h
  rcases h with ⟨k, e, h⟩ | h
  · simp at h
  · exact X.2.2.2.2.1 q (Nat.le_trans X.2.2.2.1.1 h)
/-! the ends -/
section Ends
variable {p : Program} {l : Launch} {e : Env} {R : Room} {s : State} {m : MethodId} {args : Array Value} {below : List Frame} {meth : Method} {c : Code} {H : Heap} {locs : List Loc} {cc : ByteArray} {nL : Nat} {own : String} {D : Dx} {tys : List (ClassId × FieldType)} {A : Nat → Prop} {w : va_W} {cells slots pc : Nat} {ls : Array Slot}
theorem Bx_mk {t : State} (X : Hx D tys A s H locs w) (ht : t.heap = H) : Bx D A w () t := ⟨by rw [ht]; exact X.2.1, X.2.2.1⟩
theorem rt_i {v : Int32} (C : Cx p s m args meth c cc (some .int) nL own lw_all) (X : Hx D tys A s H locs w) (hdg : decode cc pc = .ok (.ireturn, 1)) : W p l e R s m args below meth c H locs cells slots (MQ below (QI D A w v) args s cells slots A) (F0 m pc ls [.int v]) :=
  W.iret (v := v) C.1 C.2.1 C.2.2.1 (fun t ht hW => ⟨⟨v, (), rfl, rfl, Bx_mk X ht⟩, X.2.2.2.1.F ht⟩) X.2.2.2.1.2.2 hdg C.2.2.2.2.2.2
theorem rt_z {v : Int32} {ty : FieldType} (C : Cx p s m args meth c cc (some ty) nL own lw_all) (X : Hx D tys A s H locs w) (hn : narrow ty (.int v) = .int v) (hdg : decode cc pc = .ok (.ireturn, 1)) : W p l e R s m args below meth c H locs cells slots (MQ below (QI D A w v) args s cells slots A) (F0 m pc ls [.int v]) :=
  W.zret (v := v) C.1 C.2.1 C.2.2.1 hn (fun t ht hW => ⟨⟨v, (), rfl, rfl, Bx_mk X ht⟩, X.2.2.2.1.F ht⟩) X.2.2.2.1.2.2 hdg C.2.2.2.2.2.2
theorem rt_l {v : Int64} (C : Cx p s m args meth c cc (some .long) nL own lw_all) (X : Hx D tys A s H locs w) (hdg : decode cc pc = .ok (.lreturn, 1)) : W p l e R s m args below meth c H locs cells slots (MQ below (QL D A w v) args s cells slots A) (F0 m pc ls [.long v]) :=
  W.lret (v := v) C.1 C.2.1 C.2.2.1 (fun t ht hW => ⟨⟨v, (), rfl, rfl, Bx_mk X ht⟩, X.2.2.2.1.F ht⟩) X.2.2.2.1.2.2 hdg C.2.2.2.2.2.2
theorem rt_d {v : UInt64} (C : Cx p s m args meth c cc (some .double) nL own lw_all) (X : Hx D tys A s H locs w) (hdg : decode cc pc = .ok (.dreturn, 1)) : W p l e R s m args below meth c H locs cells slots (MQ below (QD D A w v) args s cells slots A) (F0 m pc ls [.double v]) :=
  W.dret (v := v) C.1 C.2.1 C.2.2.1 (fun t ht hW => ⟨⟨v, (), rfl, rfl, Bx_mk X ht⟩, X.2.2.2.1.F ht⟩) X.2.2.2.1.2.2 hdg C.2.2.2.2.2.2
theorem rt_f {v : UInt32} (C : Cx p s m args meth c cc (some .float) nL own lw_all) (X : Hx D tys A s H locs w) (hdg : decode cc pc = .ok (.freturn, 1)) : W p l e R s m args below meth c H locs cells slots (MQ below (QF D A w v) args s cells slots A) (F0 m pc ls [.float v]) :=
  W.fret (v := v) C.1 C.2.1 C.2.2.1 (fun t ht hW => ⟨⟨v, (), rfl, rfl, Bx_mk X ht⟩, X.2.2.2.1.F ht⟩) X.2.2.2.1.2.2 hdg C.2.2.2.2.2.2
theorem rt_v (C : Cx p s m args meth c cc none nL own lw_all) (X : Hx D tys A s H locs w) (hdg : decode cc pc = .ok (.return_, 1)) : W p l e R s m args below meth c H locs cells slots (MQ below (QV D A w) args s cells slots A) (F0 m pc ls []) :=
  W.vret C.1 C.2.1 C.2.2.1 (fun t ht hW => ⟨⟨(), rfl, trivial, Bx_mk X ht⟩, X.2.2.2.1.F ht⟩) X.2.2.2.1.2.2 hdg C.2.2.2.2.2.2
end Ends
/-- a body's start, out of what a contract hands it -/
theorem Cx_of {p : Program} {l : Launch} {y : MethodName} {rm : Room} {cc : ByteArray} {maxL : Nat} {ret : Option FieldType} {e : Env} {s : State} {m : MethodId} {args : Array Value} {below : List Frame} {meth : Method} {c : Code} {s₁ : State} (B : BodyLoose p l y (headSpec (ws_ y cc maxL ret) rm) cc maxL ret e s m args below meth c s₁) (hml : c.maxLocals = maxL) : Cx p s m args meth c cc ret maxL y.cls lw_all :=
  ⟨B.exec, B.bytes, B.returns, hml, findClass_of_methodNamed B.named, fun w h => atoms_spec (ws := ws_ y cc maxL ret) B.pre w (List.mem_cons_of_mem _ h), B.notSynchronized⟩
/-! truth values -/
def zB (v : Int32) : Bool := decide (v = 0 ∨ v = 1)
theorem zB_n {v : Int32} (h : zB v = true) : narrow .boolean (.int v) = .int v := by
  rcases (of_decide_eq_true h : v = 0 ∨ v = 1) with rfl | rfl <;> decide
theorem zB_f {v : Int32} (h : zB v = true) : Jvm.fits .boolean (.int v) = true := by
  rcases (of_decide_eq_true h : v = 0 ∨ v = 1) with rfl | rfl <;> decide
/-! switches -/
theorem tne {x k : Int32} {i : Int} (c : ¬ x = k) (h : k.toInt = i) : ¬ x.toInt = i := fun e => c (Int32.toInt_inj.mp (e.trans h.symm))
theorem tneS {x k : Int32} {i : Int} (c : ¬ x = k) (h : k.toInt = i) : ¬ i = x.toInt := fun e => tne c h e.symm
def TBl (x : Int32) : Int → Nat → Prop
  | _, 0 => True
  | lo, n + 1 => ¬ x.toInt = lo ∧ TBl x (lo + 1) n
theorem tbl_out' {x : Int32} : ∀ (n : Nat) (lo : Int), TBl x lo n → x.toInt < lo ∨ lo + n ≤ x.toInt
  | 0, lo, _ => by omega
  | n + 1, lo, h => by
    have h1 := h.1
    have h2 := tbl_out' n (lo + 1) h.2
    omega
theorem tbl_out {x : Int32} (lo hi : Int) (n : Nat) (he : lo + n = hi + 1) (h : TBl x lo n) : x.toInt < lo ∨ hi < x.toInt := by
  have h1 := tbl_out' n lo h
  omega
theorem lkc {a o d k v : Int} {r : List (Int × Int)} (h : ¬ a = k) (e : Op.lookupswitch.offset r d k = v) : Op.lookupswitch.offset ((a, o) :: r) d k = v := by
  rw [Op.lookupswitch.offset_cons, if_neg h]; exact e
theorem lkn {d k : Int} : Op.lookupswitch.offset [] d k = d := rfl
/-! a class's own words -/
theorem wi_all {C : String} {T : u_T} {N : Nat} (h : ∀ w ∈ u_ws C T N, w ∈ lw_tbl) : ∀ w ∈ u_ws C T N, w ∈ lw_all := by
  intro w hw
  refine lw_in (h w hw) ?_
  obtain ⟨k, -, rfl⟩ := List.mem_map.mp hw
  unfold u_lay
  split <;> rfl
theorem wi_app {a b : List Cond} (ha : ∀ w ∈ a, w ∈ lw_tbl) (hb : ∀ w ∈ b, w ∈ lw_tbl) : ∀ w ∈ a ++ b, w ∈ lw_tbl := fun w h => (List.mem_append.mp h).elim (ha w) (hb w)
theorem wi_ch {ch : List Cond} (hc : ∀ {w : Cond}, w ∈ ch → w ∈ lw_tbl) (ps : List Nat) : ∀ w ∈ ps.filterMap (fun i => ch[i]?), w ∈ lw_tbl := by
  intro w hw
  obtain ⟨i, -, hi⟩ := List.mem_filterMap.mp hw
  exact hc (List.mem_of_getElem? hi)
theorem wi_eq {a b : List Cond} (e : a = b) (h : ∀ w ∈ b, w ∈ lw_tbl) : ∀ w ∈ a, w ∈ lw_tbl := e ▸ h
/-! a group's cells: the object, then its own arrays -/
def fld (kd : Nat → Nat) (a : Nat → Nat) (g : Gs) (k : Nat) : Value := match kd k with
  | 0 => .int (gI g k)
  | 1 => .long (gL g k)
  | 2 => .double (gD g k)
  | 3 => .ref (a k)
  | _ => va_rf (gR g k)
def arC (ak : Nat → Nat) (g : Gs) (k : Nat) : (Nat → Int32) ⊕ (Nat → Int64) ⊕ (Nat → UInt32) ⊕ (Nat → UInt64) ⊕ (Nat → Option Nat) := match ak k with
  | 0 => .inl (gIA g k)
  | 1 => .inr (.inl (gLA g k))
  | _ => .inr (.inr (.inr (.inl (gDA g k))))
def arF (ak ln : Nat → Nat) (a : Nat → Nat) (y : Nat → ClassId) (g : Gs) (k : Nat) : Nat × va_E := (a k, .inl (y k, ln k, arC ak g k))
def wG (ci n : Nat) (kd : Nat → Nat) (ks : List Nat) (ak ln : Nat → Nat) (h : Nat) (a : Nat → Nat) (y : Nat → ClassId) (g : Gs) : va_W := (h, .inr (ci, (List.range n).map (fld kd a g))) :: ks.map (arF ak ln a y g)
def tG (ks : List Nat) (tk : Nat → FieldType) (y : Nat → ClassId) : List (ClassId × FieldType) := ks.map (fun k => (y k, tk k))
theorem fl_get {n k : Nat} {F : Nat → Value} (h : k < n) : ((List.range n).map F)[k]? = some (F k) := by
  rw [List.getElem?_map, List.getElem?_range h]; rfl
theorem fl_set {n k : Nat} {F : Nat → Value} {v : Value} : ((List.range n).map F).set k v = (List.range n).map (va_up F k v) := by
  apply List.ext_getElem?
  intro j
  rw [List.getElem?_set]
  by_cases hj : k = j
  · subst hj
    simp only [if_true, List.length_map, List.length_range]
    by_cases hn : k < n
    · rw [if_pos hn, fl_get hn, va_up_self]
    · rw [if_neg hn, List.getElem?_eq_none]; simp; omega
  · rw [if_neg hj, List.getElem?_map, List.getElem?_map]
    by_cases hn : j < n
    · rw [List.getElem?_range hn]; simp [va_up, Ne.symm hj]
    · rw [List.getElem?_eq_none (by simp; omega)]; rfl
theorem nd_idx : ∀ {ks : List Nat} {i j k : Nat}, va_nd ks = true → ks[i]? = some k → ks[j]? = some k → i = j
  | [], i, j, k, _, h, _ => by simp at h
  | a :: l, i, j, k, hn, hi, hj => by
    have hn' : a ∉ l ∧ va_nd l = true := by simpa [va_nd] using hn
    cases i with
    | zero => cases j with
      | zero => rfl
      | succ j =>
        simp at hi hj
        exact absurd (hi ▸ List.mem_of_getElem? hj) hn'.1
    | succ i => cases j with
      | zero =>
        simp at hi hj
        exact absurd (hj ▸ List.mem_of_getElem? hi) hn'.1
      | succ j =>
        simp at hi hj
        rw [nd_idx hn'.2 hi hj]
theorem ks_set {β : Type} {ks : List Nat} {f : Nat → β} {i k : Nat} {x : β} (hn : va_nd ks = true) (hi : ks[i]? = some k) : (ks.map f).set i x = ks.map (va_up f k x) := by
  apply List.ext_getElem?
  intro j
  rw [List.getElem?_set, List.getElem?_map, List.getElem?_map]
  by_cases hj : i = j
  · subst hj
    have hlt : i < ks.length := (List.getElem?_eq_some_iff.mp hi).1
    rw [if_pos rfl, List.length_map, if_pos hlt, hi]
    simp [va_up]
  · rw [if_neg hj]
    cases hk : ks[j]? with
    | none => rfl
    | some k' =>
      have : k' ≠ k := fun e => hj (nd_idx hn hi (e ▸ hk))
      simp [va_up, this]
section Sets
variable {ci n : Nat} {kd : Nat → Nat} {ks : List Nat} {ak ln : Nat → Nat} {h : Nat} {a : Nat → Nat} {y : Nat → ClassId} {g : Gs} {k i : Nat}
theorem wG_sI {v : Int32} (hk : kd k = 0) : (wG ci n kd ks ak ln h a y g).set 0 (h, .inr (ci, ((List.range n).map (fld kd a g)).set k (.int v))) = wG ci n kd ks ak ln h a y (sI g k v) := by
  have e : va_up (fld kd a g) k (.int v) = fld kd a (sI g k v) := by
    funext j
    by_cases hj : j = k
    · subst hj; simp [va_up, fld, hk, gI, sI]
    · simp [va_up, fld, hj, gI, sI, gL, gD, gR]
  rw [fl_set, e]; rfl
theorem wG_sL {v : Int64} (hk : kd k = 1) : (wG ci n kd ks ak ln h a y g).set 0 (h, .inr (ci, ((List.range n).map (fld kd a g)).set k (.long v))) = wG ci n kd ks ak ln h a y (sL g k v) := by
  have e : va_up (fld kd a g) k (.long v) = fld kd a (sL g k v) := by
    funext j
    by_cases hj : j = k
    · subst hj; simp [va_up, fld, hk, gL, sL]
    · simp [va_up, fld, hj, gI, sL, gL, gD, gR]
  rw [fl_set, e]; rfl
theorem wG_sD {v : UInt64} (hk : kd k = 2) : (wG ci n kd ks ak ln h a y g).set 0 (h, .inr (ci, ((List.range n).map (fld kd a g)).set k (.double v))) = wG ci n kd ks ak ln h a y (sD g k v) := by
  have e : va_up (fld kd a g) k (.double v) = fld kd a (sD g k v) := by
    funext j
    by_cases hj : j = k
    · subst hj; simp [va_up, fld, hk, gD, sD]
    · simp [va_up, fld, hj, gI, sD, gL, gD, gR]
  rw [fl_set, e]; rfl
theorem wG_sR {v : Option Nat} (hk : kd k = 4) : (wG ci n kd ks ak ln h a y g).set 0 (h, .inr (ci, ((List.range n).map (fld kd a g)).set k (va_rf v))) = wG ci n kd ks ak ln h a y (sR g k v) := by
  have e : va_up (fld kd a g) k (va_rf v) = fld kd a (sR g k v) := by
    funext j
    by_cases hj : j = k
    · subst hj; simp [va_up, fld, hk, gR, sR]
    · simp [va_up, fld, hj, gI, sR, gL, gD, gR]
  rw [fl_set, e]; rfl
theorem wG_sIA {F : Nat → Int32} (hn : va_nd ks = true) (hi : ks[i]? = some k) (hk : ak k = 0) : (wG ci n kd ks ak ln h a y g).set (i + 1) (a k, .inl (y k, ln k, .inl F)) = wG ci n kd ks ak ln h a y (sIA g k F) := by
  have e : va_up (arF ak ln a y g) k (a k, .inl (y k, ln k, .inl F)) = arF ak ln a y (sIA g k F) := by
    funext j
    by_cases hj : j = k
    · subst hj; simp [va_up, arF, arC, hk, gIA, sIA]
    · simp [va_up, arF, arC, hj, gIA, gLA, gDA, sIA]
  show _ :: (ks.map (arF ak ln a y g)).set i _ = _
  rw [ks_set hn hi, e]; rfl
theorem wG_sLA {F : Nat → Int64} (hn : va_nd ks = true) (hi : ks[i]? = some k) (hk : ak k = 1) : (wG ci n kd ks ak ln h a y g).set (i + 1) (a k, .inl (y k, ln k, .inr (.inl F))) = wG ci n kd ks ak ln h a y (sLA g k F) := by
  have e : va_up (arF ak ln a y g) k (a k, .inl (y k, ln k, .inr (.inl F))) = arF ak ln a y (sLA g k F) := by
    funext j
    by_cases hj : j = k
    · subst hj; simp [va_up, arF, arC, hk, gLA, sLA]
    · simp [va_up, arF, arC, hj, gIA, gLA, gDA, sLA]
  show _ :: (ks.map (arF ak ln a y g)).set i _ = _
  rw [ks_set hn hi, e]; rfl
theorem wG_sDA {F : Nat → UInt64} (hn : va_nd ks = true) (hi : ks[i]? = some k) (hk : ak k = 2) : (wG ci n kd ks ak ln h a y g).set (i + 1) (a k, .inl (y k, ln k, .inr (.inr (.inr (.inl F))))) = wG ci n kd ks ak ln h a y (sDA g k F) := by
  have e : va_up (arF ak ln a y g) k (a k, .inl (y k, ln k, .inr (.inr (.inr (.inl F))))) = arF ak ln a y (sDA g k F) := by
    funext j
    by_cases hj : j = k
    · subst hj; simp [va_up, arF, arC, hk, gDA, sDA]
    · simp [va_up, arF, arC, hj, gIA, gLA, gDA, sDA]
  show _ :: (ks.map (arF ak ln a y g)).set i _ = _
  rw [ks_set hn hi, e]; rfl
end Sets
theorem wG_len {ci n : Nat} {kd : Nat → Nat} {ks : List Nat} {ak ln : Nat → Nat} {h : Nat} {a : Nat → Nat} {y : Nat → ClassId} {g : Gs} {m : Nat} (hm : ks.length + 1 = m) : (wG ci n kd ks ak ln h a y g).length = m := by
  simp [wG, hm]
/-- a cell of the first of two groups, of a later one -/
theorem set_l {A B A2 : va_W} {i : Nat} {x : Nat × va_E} (h : i < A.length) (e : A.set i x = A2) : (A ++ B).set i x = A2 ++ B := by
  rw [List.set_append_left _ _ h, e]
theorem set_r {A B B2 : va_W} {i j n : Nat} {x : Nat × va_E} (hl : A.length = n) (hj : n + i = j) (e : B.set i x = B2) : (A ++ B).set j x = A ++ B2 := by
  subst hl; subst hj
  rw [List.set_append_right _ _ (Nat.le_add_right _ _), Nat.add_sub_cancel_left, e]
theorem Hx_set {D : Dx} {tys : List (ClassId × FieldType)} {A : Nat → Prop} {s : State} {H H1 : Heap} {locs locs1 : List Loc} {w w2 : va_W} {q0 : Nat} {x : Nat × va_E} (X : Hx D tys A s H locs w) (e : w.set q0 x = w2) (hP : va_P D.1 vwCl (w.set q0 x) H1) (hD : va_D A (w.set q0 x)) (hS : va_S A s.heap H1 locs1) : Hx D tys A s H1 locs1 w2 := by
  subst e
  exact ⟨X.1, hP, hD, hS, X.2.2.2.2⟩
def nsnB (b : Int64) : Bool := !vn_snl2d b
theorem nsnB_ok {b : Int64} (h : nsnB b = true) : vn_snl2d b = false := by
  unfold nsnB at h
  cases hb : vn_snl2d b with
  | false => rfl
  | true => rw [hb] at h; cases h
/-! a mutable reference; a copy of a row -/
def rEq (r : Option Nat) (h : Nat) : Bool := decide (r = some h)
theorem rf_eq {r : Option Nat} {h : Nat} (e : rEq r h = true) : some (va_rf r) = some (Value.ref h) := by
  rw [(of_decide_eq_true e : r = some h)]; rfl
def cpB (sp dp n : Int32) (n0 n1 : Nat) : Bool := decide (¬ sp < 0 ∧ ¬ dp < 0 ∧ ¬ n < 0 ∧ sp.toNatClampNeg + n.toNatClampNeg ≤ n0 ∧ dp.toNatClampNeg + n.toNatClampNeg ≤ n1)
theorem cpB_1 {sp dp n : Int32} {n0 n1 : Nat} (h : cpB sp dp n n0 n1 = true) : ¬ sp < 0 := (of_decide_eq_true h).1
theorem cpB_2 {sp dp n : Int32} {n0 n1 : Nat} (h : cpB sp dp n n0 n1 = true) : ¬ dp < 0 := (of_decide_eq_true h).2.1
theorem cpB_3 {sp dp n : Int32} {n0 n1 : Nat} (h : cpB sp dp n n0 n1 = true) : ¬ n < 0 := (of_decide_eq_true h).2.2.1
theorem cpB_4 {sp dp n : Int32} {n0 n1 : Nat} (h : cpB sp dp n n0 n1 = true) : sp.toNatClampNeg + n.toNatClampNeg ≤ n0 := (of_decide_eq_true h).2.2.2.1
theorem cpB_5 {sp dp n : Int32} {n0 n1 : Nat} (h : cpB sp dp n n0 n1 = true) : dp.toNatClampNeg + n.toNatClampNeg ≤ n1 := (of_decide_eq_true h).2.2.2.2
def fitB (ty : FieldType) (f : Nat → Int32) (sp n : Int32) : Bool := decide (∀ i, i < n.toNatClampNeg → Jvm.fits ty (.int (f (sp.toNatClampNeg + i))) = true)
theorem fitB_ok {ty : FieldType} {f : Nat → Int32} {sp n : Int32} (h : fitB ty f sp n = true) : ∀ i, i < n.toNatClampNeg → Jvm.fits ty (.int (f (sp.toNatClampNeg + i))) = true := of_decide_eq_true h
/-- the world behind a call that had one cell of ours -/
theorem Hx_cell {D : Dx} {tys : List (ClassId × FieldType)} {A : Nat → Prop} {s t : State} {H H1 : Heap} {locs locs1 : List Loc} {w w2 : va_W} {ix a : Nat} {e0 e1 : va_E} (X : Hx D tys A s H locs w) (h0 : w[ix]? = some (a, e0)) (e : w.set ix (a, e1) = w2) (ht : t.heap = H1) (hB : Bx D (va_A [(a, e0)] H.size) [(a, e1)] () t) (hk : ∀ q : Nat, q < H.size → ¬ va_A [(a, e0)] H.size q → H1[q]? = H[q]?) (hS : va_S A s.heap H1 locs1) : Hx D tys A s H1 locs1 w2 := by
  subst e
  refine ⟨X.1, ?_, X.2.2.1.set h0, hS, X.2.2.2.2⟩
  intro k q hq
  rw [List.getElem?_set] at hq
  by_cases hi : ix = k
  · rw [if_pos hi] at hq
    split at hq
    · cases hq
      have h1 := hB.1 0 (a, e1) rfl
      rw [ht] at h1
      exact h1
    · cases hq
  · rw [if_neg hi] at hq
    have h1 := X.2.1 k q hq
    refine h1.kept (hk q.1 h1.lt ?_)
    rintro (⟨k', e', h'⟩ | h')
    · cases k' with
      | zero =>
        simp only [List.getElem?_cons_zero, Option.some.injEq, Prod.mk.injEq] at h'
        exact hi (X.2.2.1.1 ix k (a, e0) q h0 hq h'.1)
      | succ k' => simp at h'
    · exact absurd h1.lt (Nat.not_lt.mpr h')
