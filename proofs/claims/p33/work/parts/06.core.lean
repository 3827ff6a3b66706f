/-! THE CORE: an abstract state S (columns of ints, and two numbers: cells and slots made so far), objects by ids (64 * index + kind), what each id's cell holds as a function of S (ct), the world Wd, and the walk judgement V over it, which hides the heap -/
abbrev Sg : Type := (Nat → Nat → Int32) × Nat × Nat
def su (S : Sg) (c i : Nat) (v : Int32) : Sg := (fun a b => if a = c ∧ b = i then v else S.1 a b, S.2)
def enc (k i : Nat) : Nat := 64 * i + k
def nt (v : Int32) : Nat := v.toNatClampNeg
def cv (ad : Nat → Nat) : Value → Value
  | .ref a => .ref (ad a)
  | .int x => .int x
  | .long x => .long x
  | .float x => .float x
  | .double x => .double x
  | .null => .null
  | .retAddr x => .retAddr x
theorem cv_cat (ad : Nat → Nat) (v : Value) : (cv ad v).category = v.category := by cases v <;> rfl
theorem enc_mod {k i : Nat} (h : k < 64) : enc k i % 64 = k := by unfold enc; omega
theorem enc_div {k i : Nat} (h : k < 64) : enc k i / 64 = i := by unfold enc; omega
/-- a field of an object: (0, column), (1, id), (2, column, kind) -/
abbrev Fd3 : Type := Nat × Nat × Nat
def nE : Int32 := -2
/-- what a column that names an object stands for -/
def rf (x : Int32) (k : Nat) : Value := if x < 0 then (if x + 1 < 0 then .ref 62 else .null) else .ref (enc k (nt x))
theorem rf_pos {x : Int32} {k : Nat} (h : ¬ x < 0) : rf x k = .ref (enc k (nt x)) := if_neg h
theorem rf_nE {k : Nat} : rf nE k = .ref 62 := by unfold rf; rw [if_pos (by decide), if_pos (by decide)]
theorem rf_null {k : Nat} : rf (-1) k = .null := by unfold rf; rw [if_pos (by decide), if_neg (by decide)]
def dv (S : Sg) (i : Nat) (d : Fd3) : Value :=
  if d.1 = 0 then .int (S.1 d.2.1 i) else if d.1 = 1 then .ref d.2.1
  else rf (S.1 d.2.1 i) d.2.2
/-- kind, class, fields -/
abbrev Tb : Type := List (Nat × Nat × List Fd3)
/-- tables' numbers: D; the classes of int[], boolean[], long[], Object[]; the objects' table; the law's first heap; the script; the empty row of a list; the mirror of Object[] -/
abbrev Cx : Type := va_G × ClassId × ClassId × ClassId × ClassId × Tb × Heap × Nat × Nat × Nat
abbrev xD (X : Cx) : va_G := X.1
abbrev xI (X : Cx) : ClassId := X.2.1
abbrev xZ (X : Cx) : ClassId := X.2.2.1
abbrev xL (X : Cx) : ClassId := X.2.2.2.1
abbrev xO (X : Cx) : ClassId := X.2.2.2.2.1
abbrev xT (X : Cx) : Tb := X.2.2.2.2.2.1
abbrev xH (X : Cx) : Heap := X.2.2.2.2.2.2.1
abbrev xB (X : Cx) : Nat := X.2.2.2.2.2.2.2.1
abbrev xE (X : Cx) : Nat := X.2.2.2.2.2.2.2.2.1
abbrev xM (X : Cx) : Nat := X.2.2.2.2.2.2.2.2.2
def mZ (i : Nat) : Bool := i = 30 || i = 35 || i = 41
def mCol (i : Nat) : Nat := if i < 100 then 100 + i else 99
def mLen (i : Nat) : Nat := if i = 3 then 7 else if i = 4 then 24 else if i = 5 then 36 else if i = 6 then 11 else if i = 7 then 60 else if i = 8 then 64 else if i = 9 then 64 else if i = 10 then 48 else if i = 11 then 50 else 8
def ar (X : Cx) (S : Sg) (k i : Nat) : va_E :=
  if k = 10 then .inl (xI X, nt (S.1 58 i), .inl (fun j => S.1 (1000 + 2 * i) j))
  else if k = 11 then .inl (xI X, 40, .inl (fun j => S.1 (1001 + 2 * i) j))
  else if k = 13 then .inl (if mZ i then xZ X else xI X, mLen i, .inl (fun j => S.1 (mCol i) j))
  else if k = 14 then .inl (xL X, 1, .inr (.inl (fun j => if j = 0 then (S.1 95 i).toInt64 else 0)))
  else if k = 2 then .inl (xO X, nt (S.1 14 i), .inr (.inr (.inr (.inr (fun t => if t < nt (S.1 17 i) then some (enc (3 + nt (S.1 16 i)) t) else none)))))
  else .inl (xI X, 0, .inl (fun _ => 0))
def ct (X : Cx) (S : Sg) (id : Nat) : va_E := match (xT X).lookup (id % 64) with
  | some q => .inr (q.1, q.2.map (dv S (id / 64)))
  | none => ar X S (id % 64) (id / 64)
def cE (ad : Nat → Nat) : va_E → va_E
  | .inr (ci, fs) => .inr (ci, fs.map (cv ad))
  | .inl (c, n, .inl f) => .inl (c, n, .inl f)
  | .inl (c, n, .inr (.inl f)) => .inl (c, n, .inr (.inl f))
  | .inl (c, n, .inr (.inr (.inl f))) => .inl (c, n, .inr (.inr (.inl f)))
  | .inl (c, n, .inr (.inr (.inr (.inl f)))) => .inl (c, n, .inr (.inr (.inr (.inl f))))
  | .inl (c, n, .inr (.inr (.inr (.inr f)))) => .inl (c, n, .inr (.inr (.inr (.inr (fun t => (f t).map ad)))))
/-- the ids that stand for something -/
def dm (S : Sg) (id : Nat) : Prop := if id % 64 = 13 then S.1 15 (id / 64) = 1 else id / 64 < nt (S.1 10 (id % 64))
def okv (S : Sg) : Value → Prop
  | .ref a => (61 ≤ a ∧ a < 64) ∨ dm S a
  | _ => True
def okL (S : Sg) : List Value → Prop
  | [] => True
  | v :: r => okv S v ∧ okL S r
/-- what a cell may hold -/
def okw (S : Sg) : Value → Prop
  | .ref a => a = 62 ∨ dm S a
  | _ => True
def okE (S : Sg) : va_E → Prop
  | .inr (_, fs) => ∀ v ∈ fs, okw S v
  | .inl (_, _, .inr (.inr (.inr (.inr f)))) => ∀ t a, f t = some a → dm S a
  | _ => True
theorem okw_mono {S S' : Sg} (h : ∀ a, dm S a → dm S' a) {v : Value} (hv : okw S v) : okw S' v := by
  cases v <;> first | trivial | skip
  exact hv.elim Or.inl (fun q => Or.inr (h _ q))
theorem okE_mono {S S' : Sg} (h : ∀ a, dm S a → dm S' a) {e : va_E} (he : okE S e) : okE S' e := by
  match e, he with
  | .inr (_, fs), he => exact fun v hv => okw_mono h (he v hv)
  | .inl (_, _, .inr (.inr (.inr (.inr f)))), he => exact fun t a q => h a (he t a q)
  | .inl (_, _, .inl f), _ => trivial
  | .inl (_, _, .inr (.inl f)), _ => trivial
  | .inl (_, _, .inr (.inr (.inl f))), _ => trivial
  | .inl (_, _, .inr (.inr (.inr (.inl f)))), _ => trivial
theorem cE_congr {S : Sg} {ad ad' : Nat → Nat} (h : ∀ a, a = 62 ∨ dm S a → ad' a = ad a) {e : va_E} (he : okE S e) : cE ad' e = cE ad e := by
  match e, he with
  | .inr (ci, fs), he =>
    show Sum.inr (ci, fs.map (cv ad')) = Sum.inr (ci, fs.map (cv ad))
    congr 2
    refine List.map_congr_left fun v hv => ?_
    have h1 := he v hv
    cases v <;> first | rfl | skip
    show Value.ref _ = Value.ref _
    rw [h _ h1]
  | .inl (c, n, .inr (.inr (.inr (.inr f)))), he =>
    show Sum.inl (c, n, Sum.inr (Sum.inr (Sum.inr (Sum.inr (fun t => (f t).map ad'))))) = Sum.inl (c, n, Sum.inr (Sum.inr (Sum.inr (Sum.inr (fun t => (f t).map ad)))))
    congr 6
    refine congrArg _ ?_
    funext t
    cases hf : f t with
    | none => rfl
    | some a => show some (ad' a) = some (ad a); rw [h a (Or.inr (he t a hf))]
  | .inl (_, _, .inl f), _ => rfl
  | .inl (_, _, .inr (.inl f)), _ => rfl
  | .inl (_, _, .inr (.inr (.inl f))), _ => rfl
  | .inl (_, _, .inr (.inr (.inr (.inl f)))), _ => rfl
theorem okL_mem {S : Sg} : ∀ {l : List Value}, okL S l ↔ ∀ v ∈ l, okv S v
  | [] => ⟨fun _ v h => absurd h List.not_mem_nil, fun _ => trivial⟩
  | v :: r => ⟨fun h w hw => (List.mem_cons.mp hw).elim (fun e => e ▸ h.1) (okL_mem.mp h.2 w), fun h => ⟨h v List.mem_cons_self, okL_mem.mpr fun w hw => h w (List.mem_cons_of_mem _ hw)⟩⟩
def okl (S : Sg) (lv : List (Nat × Value)) : Prop := ∀ q ∈ lv, okv S q.2
/-- the lists' rows: none or the empty one (then no element), or a row of its own, filled at least as far as the list goes -/
def LI (S : Sg) : Prop := (∀ k, ¬ S.1 10 k < 0 ∧ nt (S.1 10 k) ≤ S.2.1) ∧ ∀ j, (S.1 13 j < 0 ∧ S.1 12 j = 0) ∨ (¬ S.1 13 j < 0 ∧ nt (S.1 13 j) < nt (S.1 10 2) ∧ S.1 16 (nt (S.1 13 j)) = nI j ∧ j < 6 ∧ ¬ S.1 12 j < 0 ∧ nt (S.1 12 j) ≤ nt (S.1 17 (nt (S.1 13 j))) ∧ nt (S.1 17 (nt (S.1 13 j))) ≤ nt (S.1 14 (nt (S.1 13 j))) ∧ 10 ≤ nt (S.1 14 (nt (S.1 13 j))))
def nB1 : Nat := 600074
def nB2 : Nat := 7301550
def Wd (X : Cx) (S : Sg) (ad : Nat → Nat) (H : Heap) : Prop :=
  (∀ q : Nat, q < (xH X).size → H[q]? = (xH X)[q]?) ∧ (xH X).size ≤ H.size ∧ H.size ≤ (xH X).size + S.2.1 ∧ slotSum H ≤ slotSum (xH X) + S.2.2 ∧ S.2.1 ≤ nB1 ∧ S.2.2 ≤ nB2 ∧ ad 62 = xE X ∧ ad 63 = xB X ∧
  (∀ id, dm S id → (xH X).size ≤ ad id ∧ va_at (xD X) vwCl (ad id, cE ad (ct X S id)) H) ∧ (∀ id, dm S id → okE S (ct X S id)) ∧ (∀ i j, dm S i → dm S j → ad i = ad j → i = j) ∧ LI S ∧ ad 61 = xM X
def ext (S : Sg) (ad : Nat → Nat) (S' : Sg) (ad' : Nat → Nat) : Prop := (∀ id, dm S id → dm S' id ∧ ad' id = ad id) ∧ ∀ a, 61 ≤ a → a < 64 → ad' a = ad a
theorem ext_rf {S : Sg} {ad : Nat → Nat} : ext S ad S ad := ⟨fun _ h => ⟨h, rfl⟩, fun _ _ _ => rfl⟩
theorem ext_tr {S S1 S2 : Sg} {ad ad1 ad2 : Nat → Nat} (h : ext S ad S1 ad1) (h2 : ext S1 ad1 S2 ad2) : ext S ad S2 ad2 :=
  ⟨fun id hd => ⟨(h2.1 id (h.1 id hd).1).1, ((h2.1 id (h.1 id hd).1).2).trans (h.1 id hd).2⟩, fun a h3 h4 => (h2.2 a h3 h4).trans (h.2 a h3 h4)⟩
theorem ext_dmS {S S' : Sg} {ad : Nat → Nat} (h : ∀ i, dm S i → dm S' i) : ext S ad S' ad := ⟨fun id hd => ⟨h id hd, rfl⟩, fun _ _ _ => rfl⟩
theorem ext_okv {S S' : Sg} {ad ad' : Nat → Nat} (h : ext S ad S' ad') {v : Value} (hv : okv S v) : okv S' v := by
  cases v <;> first | trivial | skip
  rcases hv with e | e
  · exact Or.inl e
  · exact Or.inr (h.1 _ e).1
theorem ext_cv {S S' : Sg} {ad ad' : Nat → Nat} (h : ext S ad S' ad') {v : Value} (hv : okv S v) : cv ad' v = cv ad v := by
  cases v <;> first | rfl | skip
  rename_i a
  rcases hv with e | e
  · show Value.ref (ad' a) = Value.ref (ad a); rw [h.2 a e.1 e.2]
  · show Value.ref (ad' a) = Value.ref (ad a); rw [(h.1 _ e).2]
theorem ext_okL {S S' : Sg} {ad ad' : Nat → Nat} (h : ext S ad S' ad') : ∀ {l : List Value}, okL S l → okL S' l
  | [], _ => trivial
  | _ :: _, hl => ⟨ext_okv h hl.1, ext_okL h hl.2⟩
theorem ext_map {S S' : Sg} {ad ad' : Nat → Nat} (h : ext S ad S' ad') : ∀ {l : List Value}, okL S l → l.map (cv ad') = l.map (cv ad)
  | [], _ => rfl
  | _ :: _, hl => by rw [List.map_cons, List.map_cons, ext_cv h hl.1, ext_map h hl.2]
abbrev lvc (ad : Nat → Nat) (lv : List (Nat × Value)) : List (Nat × Value) := lv.map (fun q => (q.1, cv ad q.2))
theorem ext_lvc {S S' : Sg} {ad ad' : Nat → Nat} (h : ext S ad S' ad') {lv : List (Nat × Value)} (hl : okl S lv) : lvc ad' lv = lvc ad lv :=
  List.map_congr_left fun q hq => by rw [ext_cv h (hl q hq)]
theorem ext_okl {S S' : Sg} {ad ad' : Nat → Nat} (h : ext S ad S' ad') {lv : List (Nat × Value)} (hl : okl S lv) : okl S' lv := fun q hq => ext_okv h (hl q hq)
