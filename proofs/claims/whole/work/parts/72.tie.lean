/-! ===== what ties the class's state to the reference's ===== -/
def RS.thr (r : RS) (v : Int32) : RS := RS.mk v r.length r.size r.p r.limit r.token r.tokAt r.span r.number r.fault r.faultAt r.word r.got r.lines r.hasWait r.undoMany r.firstMinute r.lookClock r.hasTime r.latestMost r.textMany r.seed r.toldMany r.hasTold r.codes r.ones r.top r.deep r.isWhole r.tape r.h r.reserved r.names r.s r.undone r.before r.comeRow r.shown r.read r.toldAt r.stack r.truths r.imaged r.namesKept r.areKept r.text
def blk (s u : Nat → Int32) (i : Nat) : Nat → Int32 := fun k => if 52 ≤ k ∧ k < 153 then u (101 * i + (k - 52)) else s k
/-- a sentence's parts, each behind what it works on: what, its sign, its number -/
def kw9 (w : Nat) : Nat := if w = 20 then 16 else if w = 21 then 15 else if w = 22 then 14 else 17 + w
def en9 (x : Nat × Nat × Nat) : Nat := kw9 x.1 * 8192 + (x.2.1 - 60) * 1024 + x.2.2
def wf9 (b : MB) (x : Nat × Nat × Nat) : Prop := (x.1 ≤ 8 ∨ x.1 = 20 ∨ x.1 = 21 ∨ x.1 = 22) ∧ ((5 ≤ x.1 ∧ x.1 ≤ 8) → 60 ≤ x.2.1 ∧ x.2.1 ≤ 62) ∧ (¬ (5 ≤ x.1 ∧ x.1 ≤ 8) → x.2.1 = 0) ∧ x.2.2 ≤ 999 ∧ (x.1 = 3 → x.2.2 < b.C) ∧ (x.1 = 4 → x.2.2 < b.T)
/-- how deep the stack is -/
def pf9 : List (Nat × Nat × Nat) → Nat → Option Nat
  | [], n => some n
  | x :: q, n => if x.1 = 20 then (if n = 0 then none else pf9 q n) else if x.1 = 21 ∨ x.1 = 22 then (if n < 2 then none else pf9 q (n - 1)) else pf9 q (n + 1)
def lf9 : List (Nat × Nat × Nat) → Nat
  | [] => 0
  | x :: q => (if x.1 ≤ 8 then 1 else 0) + lf9 q
def SR (b : MB) (len : Int32) (code : Nat → Int32) (s : Nat → Int32) : Prop := ∃ q : List (Nat × Nat × Nat), q.length ≤ 40 ∧ len = nI q.length ∧ s 153 = nI q.length ∧ (∀ (i : Nat) (x : Nat × Nat × Nat), q[i]? = some x → code i = nI (en9 x) ∧ s (154 + 3 * i) = nI x.1 ∧ s (155 + 3 * i) = nI x.2.1 ∧ s (156 + 3 * i) = nI x.2.2 ∧ wf9 b x) ∧ (q = [] ∨ pf9 q 0 = some 1) ∧ lf9 q ≤ 20
def WR (b : MB) (d : MD) (B : CB) (D : CY) (len : Int32) (code : Nat → Int32) (s : Nat → Int32) (nm : Nat → Int64) : Prop := BR b B s nm ∧ DY b d B D s ∧ SR b len code s
def HR (b : MB) (B : CB) (hd : Nat → CY) (next size : Int32) (s undone : Nat → Int32) (many : Int32) : Prop := ∃ p n : Nat, p < 8 ∧ n ≤ 8 ∧ next = nI p ∧ size = nI n ∧ many = nI n ∧ ∀ i, i < n → ∃ d, DY b d B (hd ((p + 8 - n + i) % 8)) (blk s undone i)
def IR (kept : Nat → Int32) (ib : Nat → CB) (im : Nat → CY) (len : Nat → Int32) (code : Nat → Nat → Int32) (areKept imaged : Nat → Int32) (nk : Nat → Int64) : Prop := ∀ j, j < 2 → (kept j = 0 ∧ areKept j = 0) ∨ (kept j = 1 ∧ areKept j = 1 ∧ ∃ b d, WR b d (ib j) (im j) (len j) (code j) (fun i => imaged (334 * j + i)) (fun i => nk (18 * j + i)))
def TR (len : Int32) (by9 : Nat → Int32) (len' : Int32) (tape : Nat → Int32) : Prop := ∃ L : Nat, L ≤ 940 ∧ len = nI L ∧ len' = nI L ∧ ∀ i, i < L → by9 i = tape i
def TM (first best has fm lc : Int32) : Prop := (has = 0 ∧ first = -1 ∧ best = -1) ∨ (has = 1 ∧ first = fm ∧ best = lc)
def TL (judged why good mt ot has : Int32) (ta : Nat → Int32) : Prop := (judged = 0 ∧ has = 0) ∨ (judged = 1 ∧ has = 1 ∧ why = ta 0 ∧ good = ta 1 ∧ mt = ta 2 ∧ ot = ta 3)
def rv9 : List Int64 := [427021001579, 1717662580, 1936486263, 444015930995, 465726301555, 120265316263282, 1835361652, 427071202675, 2002872692, 1936028787, 1937010544, 495873782388, 1836021349, 120299592184933, 28530, 6385252, 7237492, 7304564, 444250812007, 491394656372, 25209, 29807, 1818326117, 109330312357234, 1667329381, 121450625394034]
def RV (res : Nat → Int64) : Prop := ∀ (i : Nat) (w : Int64), rv9[i]? = some w → res i = w
def Rel (k : KS) (r : RS) : Prop := ∃ b d, WR b d k.here k.day k.here_sentence_length k.here_sentence_code r.s r.names ∧ HR b k.here k.hd k.history_next k.history_size r.s r.undone r.undoMany ∧ IR k.images_kept k.ib k.im k.images_sentence_length k.images_sentence_code r.areKept r.imaged r.namesKept ∧ TR k.tape_length k.tape_bytes r.length r.tape ∧ k.lastFault = r.fault ∧ k.lastLateness = r.latestMost ∧ TM k.watch_first k.watch_bestClock r.hasTime r.firstMinute r.lookClock ∧ TL k.ledger_judged k.ledger_why k.ledger_good k.ledger_minuteThen k.ledger_outThen r.hasTold r.toldAt ∧ RV r.reserved
/-- alike: both answer the same and are tied again -/
def Ok9 (F : KS → Option (Int32 × KS)) (G : RS → Option (Int32 × RS)) : Prop := ∀ k r, Rel k r → ∃ v k' r', F k = some (v, k') ∧ G r = some (v, r') ∧ Rel k' r'
theorem Rel.th {k : KS} {r : RS} (h : Rel k r) (v : Int32) : Rel k (r.thr v) := h
