/-! what each call answers, and what it makes of g: (0 returned, 1 IllegalArgument, 2 IllegalState, 3 IndexOutOfBounds; the answer; the new g) -/
abbrev Rr : Type := Nat × Int32 × Gm
abbrev inr (x lo hi : Int32) : Prop := lo ≤ x ∧ x ≤ hi
abbrev isX (g : Gm) (c : Nat) (x : Int32) : Prop := 0 ≤ x ∧ x < g c 0
def gHall (g : Gm) (a b : Int32) : Gm := gu (gu (gu (gu g 103 (nt (g 302 0)) a) 104 (nt (g 302 0)) b) 106 (nt (g 302 0)) 5000) 302 0 (g 302 0 + 1)
def rHall (g : Gm) (a b : Int32) : Rr := if inr a 1 6 ∧ inr b 1 8 then (if g 302 0 = 4 then (2, 0, g) else (0, g 302 0, gHall g a b)) else (1, 0, g)
def gLamp (g : Gm) (h m n : Int32) : Gm := gu (gu g 106 (nt h) m) 105 (nt h) (if n = 0 then g 105 (nt h) else 0)
def rLamp (g : Gm) (h m n : Int32) : Rr := if isX g 302 h then (if inr m 1 100000 then (0, g 105 (nt h), gLamp g h m n) else (1, 0, g)) else (3, 0, g)
def gFilm (g : Gm) (l a p : Int32) : Gm := gu (gu (gu (gu (gu (gu g 108 (nt (g 307 0)) l) 109 (nt (g 307 0)) a) 110 (nt (g 307 0)) p) 111 (nt (g 307 0)) 50) 113 (nt (g 307 0)) 50) 307 0 (g 307 0 + 1)
def rFilm (g : Gm) (l a p : Int32) : Rr := if inr l 30 240 ∧ inr a 0 18 ∧ inr p 1 999 then (if g 307 0 = 8 then (2, 0, g) else (0, g 307 0, gFilm g l a p)) else (1, 0, g)
def gTerms (g : Gm) (f a b c d e : Int32) : Gm := gu (gu (gu (gu (gu g 111 (nt f) a) 112 (nt f) b) 113 (nt f) c) 114 (nt f) d) 115 (nt f) e
def rTerms (g : Gm) (f a b c d e : Int32) : Rr := if isX g 307 f then (if inr a 0 100 ∧ inr b 0 100 ∧ inr c 0 100 ∧ inr d 0 100000 ∧ inr e 0 100000 then (0, 0, gTerms g f a b c d e) else (1, 0, g)) else (3, 0, g)
def gKey (g : Gm) (f h a b : Int32) : Gm := gu (gu (gu (gu (gu g 117 (nt (g 316 0)) f) 118 (nt (g 316 0)) h) 119 (nt (g 316 0)) a) 120 (nt (g 316 0)) b) 316 0 (g 316 0 + 1)
def rKey (g : Gm) (f h a b : Int32) : Rr := if isX g 307 f ∧ isX g 302 h then (if inr a 0 100000 ∧ inr b (a + 1) 110000 then (if g 316 0 = 30 then (2, 0, g) else (0, g 316 0, gKey g f h a b)) else (1, 0, g)) else (3, 0, g)
def rSpread (g : Gm) (m : Int32) : Rr := if inr m 0 60 then (0, g 301 0, gu g 301 0 m) else (1, 0, g)
/-! whether a show fits -/
def Opn (g : Gm) (f h t : Int32) : Prop := ∃ k : Int32, 0 ≤ k ∧ k < g 316 0 ∧ g 117 (nt k) = f ∧ g 118 (nt k) = h ∧ g 119 (nt k) ≤ t ∧ t + g 108 (nt f) ≤ g 120 (nt k)
abbrev mtS (g : Gm) (f h t s : Int32) : Prop := on g s ∧ g 123 (nt s) = h ∧ t < en g s + 20 ∧ g 124 (nt s) < t + g 108 (nt f) + 20
def Mts (g : Gm) (f h t : Int32) : Prop := ∃ s : Int32, 0 ≤ s ∧ s < g 321 0 ∧ mtS g f h t s
abbrev nrS (g : Gm) (h t s : Int32) : Prop := on g s ∧ g 123 (nt s) ≠ h ∧ (if g 124 (nt s) ≤ t then t - g 124 (nt s) else g 124 (nt s) - t) < g 301 0
def Nrs (g : Gm) (h t : Int32) : Prop := ∃ s : Int32, 0 ≤ s ∧ s < g 321 0 ∧ nrS g h t s
def brn (g : Gm) (f h : Int32) (n : Nat) : Int32 := (g 105 (nt h) + g 108 (nt f)) + sm (fun s => if on g s ∧ g 123 (nt s) = h then g 108 (nt (g 122 (nt s))) else 0) n
noncomputable def rsn (g : Gm) (f h t : Int32) : Int32 := by
  classical exact (if Opn g f h t then (if Mts g f h t then 2 else if Nrs g h t then 3 else if brn g f h (nt (g 321 0)) ≤ g 106 (nt h) then 0 else 4) else 1)
theorem rsn1 {g : Gm} {f h t : Int32} (h1 : ¬ Opn g f h t) : rsn g f h t = 1 := by unfold rsn; rw [if_neg h1]
theorem rsn2 {g : Gm} {f h t : Int32} (h1 : Opn g f h t) (h2 : Mts g f h t) : rsn g f h t = 2 := by unfold rsn; rw [if_pos h1, if_pos h2]
theorem rsn3 {g : Gm} {f h t : Int32} (h1 : Opn g f h t) (h2 : ¬ Mts g f h t) (h3 : Nrs g h t) : rsn g f h t = 3 := by unfold rsn; rw [if_pos h1, if_neg h2, if_pos h3]
theorem rsn4 {g : Gm} {f h t : Int32} (h1 : Opn g f h t) (h2 : ¬ Mts g f h t) (h3 : ¬ Nrs g h t) (h4 : ¬ brn g f h (nt (g 321 0)) ≤ g 106 (nt h)) : rsn g f h t = 4 := by unfold rsn; rw [if_pos h1, if_neg h2, if_neg h3, if_neg h4]
theorem rsn0 {g : Gm} {f h t : Int32} (h1 : Opn g f h t) (h2 : ¬ Mts g f h t) (h3 : ¬ Nrs g h t) (h4 : brn g f h (nt (g 321 0)) ≤ g 106 (nt h)) : rsn g f h t = 0 := by unfold rsn; rw [if_pos h1, if_neg h2, if_neg h3, if_pos h4]
def gShow (g : Gm) (f h t : Int32) : Gm := gu (gu (gu (gu g 122 (nt (g 321 0)) f) 123 (nt (g 321 0)) h) 124 (nt (g 321 0)) t) 321 0 (g 321 0 + 1)
noncomputable def rShow (g : Gm) (f h t : Int32) : Rr := if isX g 307 f ∧ isX g 302 h then (if inr t (g 300 0 + 1) 100000 then (if g 321 0 = 30 then (2, 0, g) else if rsn g f h t = 0 then (0, g 321 0, gShow g f h t) else (2, 0, g)) else (1, 0, g)) else (3, 0, g)
noncomputable def rFits (g : Gm) (f h t : Int32) : Rr := if isX g 307 f ∧ isX g 302 h then (if inr t (g 300 0 + 1) 100000 then (0, rsn g f h t, g) else (1, 0, g)) else (3, 0, g)
/-- the first minute from t on, n minutes at most -/
noncomputable def fst (g : Gm) (f h : Int32) : Nat → Int32 → Int32
  | 0, _ => -1
  | n + 1, t => if 100000 < t then -1 else if rsn g f h t = 0 then t else fst g f h n (t + 1)
noncomputable def rFirst (g : Gm) (f h t : Int32) : Rr := if isX g 307 f ∧ isX g 302 h then (if inr t (g 300 0 + 1) 100000 then (0, fst g f h 10081 t, g) else (1, 0, g)) else (3, 0, g)
/-! cancel, breaks -/
def gCancel (g : Gm) (s : Int32) : Gm := fun c i =>
  if c = 140 ∧ i < nt (g 336 0) ∧ g 137 i = s then 0 else if c = 141 ∧ i < nt (g 336 0) ∧ g 137 i = s then 1
  else if c = 135 ∧ i < nt (g 331 0) ∧ g 132 i = s then 1 else if (c = 126 ∨ c = 127) ∧ nt (48 * s) ≤ i ∧ i < nt (48 * s) + 48 then -1
  else if c = 128 ∧ i = nt s then 0 else if c = 125 ∧ i = nt s then 4 else g c i
def rCancel (g : Gm) (s : Int32) : Rr := if isX g 321 s then (if g 125 (nt s) = 0 then (0, pf g s, gCancel g s) else (2, 0, g)) else (3, 0, g)
def bkT (g : Gm) (s t : Int32) : Int32 := if g 137 (nt t) = s ∧ g 141 (nt t) = 0 then (if 2 * g 108 (nt (g 122 (nt s))) ≤ 3 * (g 300 0 - g 124 (nt s)) then g 140 (nt t) / 2 else g 140 (nt t)) else 0
def gBreaks (g : Gm) (s : Int32) : Gm := fun c i =>
  if c = 140 ∧ i < nt (g 336 0) then g 140 i - bkT g s (nI i)
  else if c = 105 ∧ i = nt (g 123 (nt s)) then g 105 i + (g 300 0 - g 124 (nt s)) else if c = 125 ∧ i = nt s then 3 else g c i
def rBreaks (g : Gm) (s : Int32) : Rr := if isX g 321 s then (if g 125 (nt s) = 1 then (0, sm (bkT g s) (nt (g 336 0)), gBreaks g s) else (2, 0, g)) else (3, 0, g)
/-! seats -/
def prc (g : Gm) (s age : Int32) : Int32 :=
  let c := g 110 (nt (g 122 (nt s)))
  let i := if 1080 ≤ g 124 (nt s) - g 124 (nt s) / 1440 * 1440 then c else 3 * c / 4
  if 12 ≤ age then i else i / 2
def gTick (g : Gm) (s p a : Int32) : Gm := gu (gu (gu (gu (gu g 137 (nt (g 336 0)) s) 138 (nt (g 336 0)) p) 139 (nt (g 336 0)) a) 140 (nt (g 336 0)) (prc g s a)) 336 0 (g 336 0 + 1)
def gHold0 (g : Gm) (s p u : Int32) : Gm := gu (gu (gu (gu g 132 (nt (g 331 0)) s) 133 (nt (g 331 0)) p) 134 (nt (g 331 0)) u) 331 0 (g 331 0 + 1)
def gSells (g : Gm) (s p age : Int32) : Gm := gu (gu (gu (gu (gu (gu g 137 (nt (g 336 0)) s) 138 (nt (g 336 0)) p) 139 (nt (g 336 0)) age) 140 (nt (g 336 0)) (prc g s age)) 126 (nt (48 * s + p)) (g 336 0)) 336 0 (g 336 0 + 1)
def gShift (g : Gm) (s : Int32) : Gm := fun c i => if c = 128 ∧ i = nt s then g 128 (nt s) - 1 else if (c = 129 ∨ c = 130) ∧ nt (40 * s) ≤ i ∧ i < nt (40 * s) + nt (g 128 (nt s) - 1) then g c (i + 1) else g c i
def gFrees (g : Gm) (s p : Int32) : Int32 × Gm := if g 128 (nt s) = 0 ∨ g 336 0 = 400 then (-1, g) else (g 336 0, gSells (gShift g s) s p (g 129 (nt (40 * s))))
def gEnds (g : Gm) (k : Int32) : Int32 × Gm := gFrees (gu (gu g 135 (nt k) 1) 127 (nt (48 * g 132 (nt k) + g 133 (nt k))) (-1)) (g 132 (nt k)) (g 133 (nt k))
def eH : Nat → Int32 → Gm → Gm
  | 0, _, g => g
  | d + 1, k, g => eH d (k + 1) (if g 135 (nt k) = 0 ∧ ¬ g 300 0 < g 134 (nt k) then (gEnds g k).2 else g)
def gOver (g : Gm) (s : Int32) : Gm := gu (gu g 125 (nt s) 2) 105 (nt (g 123 (nt s))) (g 105 (nt (g 123 (nt s))) + g 108 (nt (g 122 (nt s))))
def eS : Nat → Int32 → Gm → Gm
  | 0, _, g => g
  | d + 1, s, g => eS d (s + 1) (if g 125 (nt s) = 1 ∧ ¬ g 300 0 < en g s then gOver g s else g)
def gRun (g : Gm) (s : Int32) : Gm := gu (gu g 125 (nt s) 1) 128 (nt s) 0
def sS : Nat → Int32 → Gm → Gm
  | 0, _, g => g
  | d + 1, s, g => sS d (s + 1) (if g 125 (nt s) = 0 ∧ ¬ g 300 0 < g 124 (nt s) then gRun g s else g)
def chg (g : Gm) : Gm := sS (nt (g 321 0)) 0 (eS (nt (g 321 0)) 0 (eH (nt (g 331 0)) 0 g))
def gMin (g : Gm) : Gm := chg (gu g 300 0 (g 300 0 + 1))
def passN : Nat → Gm → Gm
  | 0, g => g
  | n + 1, g => passN n (gMin g)
def rPass (g : Gm) (m : Int32) : Rr := if inr m 1 5000 then (if g 300 0 + m ≤ 100000 then (0, passN (nt m) g 300 0, passN (nt m) g) else (2, 0, g)) else (1, 0, g)
abbrev isP (g : Gm) (s r p : Int32) : Prop := isX g 321 s ∧ 0 ≤ r ∧ r < g 103 (nt (g 123 (nt s))) ∧ 0 ≤ p ∧ p < g 104 (nt (g 123 (nt s)))
abbrev pla (g : Gm) (s r p : Int32) : Int32 := g 104 (nt (g 123 (nt s))) * r + p
abbrev fre (g : Gm) (s p : Int32) : Prop := g 126 (nt (48 * s + p)) = -1 ∧ g 127 (nt (48 * s + p)) = -1
abbrev see (g : Gm) (s age : Int32) : Prop := g 109 (nt (g 122 (nt s))) ≤ age
def gHold (g : Gm) (s p m : Int32) : Gm := gu (gu (gu (gu (gu g 132 (nt (g 331 0)) s) 133 (nt (g 331 0)) p) 134 (nt (g 331 0)) (if g 124 (nt s) ≤ g 300 0 + m then g 124 (nt s) else g 300 0 + m)) 127 (nt (48 * s + p)) (g 331 0)) 331 0 (g 331 0 + 1)
def rHold (g : Gm) (s r p m : Int32) : Rr := if isP g s r p then (if inr m 1 5000 then (if g 125 (nt s) = 0 ∧ fre g s (pla g s r p) ∧ g 331 0 < 100 then (0, g 331 0, gHold g s (pla g s r p) m) else (2, 0, g)) else (1, 0, g)) else (3, 0, g)
def rLetGo (g : Gm) (k : Int32) : Rr := if isX g 331 k then (if g 135 (nt k) = 0 then (0, gEnds g k) else (2, 0, g)) else (3, 0, g)
def gBuy (g : Gm) (k age : Int32) : Gm := gSells (gu (gu g 135 (nt k) 1) 127 (nt (48 * g 132 (nt k) + g 133 (nt k))) (-1)) (g 132 (nt k)) (g 133 (nt k)) age
def rBuy (g : Gm) (k age : Int32) : Rr := if isX g 331 k then (if inr age 0 120 then (if g 135 (nt k) = 0 ∧ see g (g 132 (nt k)) age ∧ g 336 0 < 400 then (0, g 336 0, gBuy g k age) else (2, 0, g)) else (1, 0, g)) else (3, 0, g)
def rSell (g : Gm) (s r p age : Int32) : Rr := if isP g s r p then (if inr age 0 120 then (if g 125 (nt s) = 0 ∧ fre g s (pla g s r p) ∧ see g s age ∧ g 336 0 < 400 then (0, g 336 0, gSells g s (pla g s r p) age) else (2, 0, g)) else (1, 0, g)) else (3, 0, g)
def allF (g : Gm) (s p many : Int32) : Prop := ∀ k : Int32, p ≤ k → k < p + many → fre g s k
def offS (g : Gm) (s many x : Int32) : Int32 := if 0 ≤ 2 * x + many - g 104 (nt (g 123 (nt s))) then 2 * x + many - g 104 (nt (g 123 (nt s))) else -(2 * x + many - g 104 (nt (g 123 (nt s))))
noncomputable def bst (g : Gm) (s many row : Int32) : Nat → Int32 × Int32
  | 0 => (-1, 0)
  | n + 1 => by classical exact (if allF g s (g 104 (nt (g 123 (nt s))) * row + nI n) many ∧ ((bst g s many row n).1 = -1 ∨ offS g s many (nI n) < (bst g s many row n).2) then (nI n, offS g s many (nI n)) else bst g s many row n)
def nps (g : Gm) (s many : Int32) : Nat := nt (g 104 (nt (g 123 (nt s))) + 1 - many)
noncomputable def sde (g : Gm) (s many : Int32) : Nat → Int32 → Int32
  | 0, _ => -1
  | d + 1, row => if (bst g s many row (nps g s many)).1 = -1 then sde g s many d (row + 1) else g 104 (nt (g 123 (nt s))) * row + (bst g s many row (nps g s many)).1
noncomputable def sid (g : Gm) (s many : Int32) : Int32 := sde g s many (nt (g 103 (nt (g 123 (nt s))))) 0
def gGroup (s age : Int32) : Nat → Int32 → Gm → Gm
  | 0, _, g => g
  | d + 1, p, g => gGroup s age d (p + 1) (gSells g s p age)
noncomputable def rGroup (g : Gm) (s many age : Int32) : Rr := if isX g 321 s then (if inr many 2 8 ∧ inr age 0 120 then (if g 125 (nt s) = 0 ∧ sid g s many ≠ -1 ∧ see g s age ∧ g 336 0 + many ≤ 400 then (0, g 336 0, gGroup s age (nt many) (sid g s many) g) else (2, 0, g)) else (1, 0, g)) else (3, 0, g)
def gBack (g : Gm) (t : Int32) : Gm := (gFrees (gu (gu (gu g 140 (nt t) 0) 141 (nt t) 1) 126 (nt (48 * g 137 (nt t) + g 138 (nt t))) (-1)) (g 137 (nt t)) (g 138 (nt t))).2
def rBack (g : Gm) (t : Int32) : Rr := if isX g 336 t then (if g 125 (nt (g 137 (nt t))) = 0 ∧ g 141 (nt t) = 0 then (0, g 140 (nt t), gBack g t) else (2, 0, g)) else (3, 0, g)
def full (g : Gm) (s : Int32) : Prop := ∀ p : Int32, 0 ≤ p → p < wd g s → ¬ fre g s p
/-- how many members are ahead, looked for from behind -/
def mem (g : Gm) (s : Int32) : Nat → Int32
  | 0 => 0
  | n + 1 => if g 130 (nt (40 * s + nI n)) = 0 then mem g s n else nI (n + 1)
def jAt (g : Gm) (s m : Int32) : Int32 := if m = 0 then g 128 (nt s) else mem g s (nt (g 128 (nt s)))
def gJoin (g : Gm) (s age m : Int32) : Gm := fun c i =>
  if c = 128 ∧ i = nt s then g 128 (nt s) + 1
  else if c = 129 ∧ i = nt (40 * s + jAt g s m) then age else if c = 130 ∧ i = nt (40 * s + jAt g s m) then m
  else if c = 129 ∧ nt (40 * s + jAt g s m) < i ∧ i ≤ nt (40 * s + g 128 (nt s)) then g 129 (i - 1)
  else if c = 130 ∧ nt (40 * s + jAt g s m) < i ∧ i ≤ nt (40 * s + g 128 (nt s)) then 0 else g c i
noncomputable def rJoin (g : Gm) (s age m : Int32) : Rr := by
  classical exact (if isX g 321 s then (if inr age 0 120 then (if g 125 (nt s) = 0 ∧ full g s ∧ see g s age ∧ g 128 (nt s) < 40 then (0, jAt g s m, gJoin g s age m) else (2, 0, g)) else (1, 0, g)) else (3, 0, g))
/-! what is asked -/
def rPrice (g : Gm) (s age : Int32) : Rr := if isX g 321 s then (if inr age 0 120 then (0, prc g s age, g) else (1, 0, g)) else (3, 0, g)
def rSeat (g : Gm) (s r p : Int32) : Rr := if isP g s r p then (0, plv g s (pla g s r p), g) else (3, 0, g)
def cnt (g : Gm) (c : Nat) (s : Int32) : Nat → Int32 := sm (fun p => if g c (nt (48 * s + p)) = -1 then 0 else 1)
def rOfShow (g : Gm) (s w : Int32) : Rr := if isX g 321 s ∧ inr w 0 7 then (0, (if w = 0 then g 122 (nt s) else if w = 1 then g 123 (nt s) else if w = 2 then g 124 (nt s) else if w = 3 then g 125 (nt s) else if w = 4 then cnt g 126 s 48 else if w = 5 then cnt g 127 s 48 else if w = 6 then g 128 (nt s) else pf g s), g) else (3, 0, g)
def rOfTicket (g : Gm) (t w : Int32) : Rr := if isX g 336 t ∧ inr w 0 5 then (0, (if w = 0 then g 137 (nt t) else if w = 1 then g 138 (nt t) / g 104 (nt (g 123 (nt (g 137 (nt t))))) else if w = 2 then g 138 (nt t) - g 138 (nt t) / g 104 (nt (g 123 (nt (g 137 (nt t))))) * g 104 (nt (g 123 (nt (g 137 (nt t))))) else if w = 3 then g 139 (nt t) else if w = 4 then g 140 (nt t) else if g 141 (nt t) = 0 then 0 else 1), g) else (3, 0, g)
/-- the last show of the first n that runs in the hall -/
def rnn (g : Gm) (h : Int32) : Nat → Int32
  | 0 => -1
  | n + 1 => if g 125 (nt (nI n)) = 1 ∧ g 123 (nt (nI n)) = h then nI n else rnn g h n
def rOfHall (g : Gm) (h w : Int32) : Rr := if isX g 302 h ∧ inr w 0 3 then (0, (if w = 0 then g 103 (nt h) * g 104 (nt h) else if w = 1 then g 105 (nt h) else if w = 2 then g 106 (nt h) else rnn g h (nt (g 321 0))), g) else (3, 0, g)
def opg (g : Gm) (f : Int32) : Nat → Int32
  | 0 => -1
  | n + 1 => if g 122 (nt (nI n)) = f ∧ g 125 (nt (nI n)) ≠ 4 ∧ (opg g f n = -1 ∨ g 124 (nt (nI n)) / 10080 < opg g f n) then g 124 (nt (nI n)) / 10080 else opg g f n
def opn (g : Gm) (f : Int32) : Int32 := opg g f (nt (g 321 0))
abbrev inW (g : Gm) (f w s : Int32) : Prop := opn g f ≠ -1 ∧ g 122 (nt s) = f ∧ g 124 (nt s) / 10080 = opn g f + w
def tkn (g : Gm) (f w : Int32) : Int32 := sm (fun s => if inW g f w s then pf g s else 0) (nt (g 321 0))
def rTakings (g : Gm) (f w : Int32) : Rr := if isX g 307 f then (if inr w 0 9 then (0, tkn g f w, g) else (1, 0, g)) else (3, 0, g)
def own (g : Gm) (f w x : Int32) : Int32 :=
  let part := if g 113 (nt f) ≤ g 111 (nt f) - w * g 112 (nt f) then g 111 (nt f) - w * g 112 (nt f) else g 113 (nt f)
  let above := if x ≤ g 114 (nt f) then 0 else x - g 114 (nt f)
  if part * above / 100 ≤ g 113 (nt f) * x / 100 then g 113 (nt f) * x / 100 else part * above / 100
def rShare (g : Gm) (f w : Int32) : Rr := if isX g 307 f then (if inr w 0 9 then (0, own g f w (tkn g f w), g) else (1, 0, g)) else (3, 0, g)
def rStay (g : Gm) (f w : Int32) : Rr := if isX g 307 f then (if inr w 0 9 then (0, (if opn g f ≠ -1 ∧ g 115 (nt f) ≤ tkn g f w then 1 else 0), g) else (1, 0, g)) else (3, 0, g)
def aud (g : Gm) : Nat → Int32 → Int32
  | 0, _ => 0
  | d + 1, t => g 140 (nt t) + aud g d (t + 1)
def rAudit (g : Gm) (a b : Int32) : Rr := if isX g 336 a ∧ isX g 336 b then (if b < a then (1, 0, g) else (0, sm (fun t => if a ≤ t then g 140 (nt t) else 0) (nt (b + 1)), g)) else (3, 0, g)
def rAll (g : Gm) (w : Int32) : Rr := if inr w 0 4 then (0, (if w = 0 then g 300 0 else if w = 1 then g 321 0 else if w = 2 then g 336 0 else if w = 3 then sm (fun k => if g 135 (nt k) = 0 then 1 else 0) (nt (g 331 0)) else sm (fun t => g 140 (nt t)) (nt (g 336 0))), g) else (3, 0, g)
