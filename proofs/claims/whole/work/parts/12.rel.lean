section
-- the regiment as told: numbers of men, deeds, buttons, friends, hours of a day, storm
def RT (nm nd nb nf hd st : Nat) (men deeds buttons friends hours storm : Int32) (c3 c4 c5 c6 b7 b8 b9 b10 b11 b12 b13 w14 : Nat → Int32) : Prop :=
  (men = nI nm ∧ nm ≤ 6) ∧ (deeds = nI nd ∧ nd ≤ 6) ∧ (buttons = nI nb ∧ nb ≤ 10) ∧ (friends = nI nf ∧ nf ≤ 15) ∧ (hours = nI hd ∧ 1 ≤ hd ∧ hd ≤ 24) ∧ (storm = nI st ∧ st ≤ 100) ∧
  (∀ m, m < nm → (∃ k, k ≤ 9 ∧ c3 m = nI k) ∧ (∃ k, 1 ≤ k ∧ k ≤ 4 ∧ c4 m = nI k) ∧ (∃ k, k ≤ 1 ∧ c5 m = nI k)) ∧
  (∀ d, d < nd → ∃ k, 1 ≤ k ∧ k ≤ 24 ∧ c6 d = nI k) ∧
  (∀ b, b < nb → (∃ k, k < nm ∧ b7 b = nI k) ∧ (∃ k, k < nm ∧ b8 b = nI k) ∧ (∃ k, k < nd ∧ b9 b = nI k) ∧ (b10 b = 0 ∨ b10 b = 1) ∧ (∃ k, 1 ≤ k ∧ k ≤ 60 ∧ b11 b = nI k) ∧ (∃ k, 1 ≤ k ∧ k ≤ 99 ∧ b12 b = nI k) ∧ (b13 b = -1 ∨ ∃ k, k < b ∧ b13 b = nI k)) ∧
  (∀ i j, i < 6 → j < 6 → (w14 (6 * i + j) = -100 ∨ (-9 ≤ w14 (6 * i + j) ∧ w14 (6 * i + j) ≤ 9)) ∧ w14 (6 * i + j) = w14 (6 * j + i)) ∧ ∀ i, i < 6 → w14 (6 * i + i) = -100
-- the reference holds the same
def RM (nm nd nb : Nat) (men deeds buttons friends hours storm : Int32) (c3 c4 c5 c6 b7 b8 b9 b10 b11 b12 b13 w14 : Nat → Int32) (mmen mdeeds mbuttons mfriends mhours mstorm : Int32) (m15 m16 m17 m18 m19 m26 m27 m28 m29 m30 m31 m33 : Nat → Int32) : Prop :=
  (mmen = men ∧ mdeeds = deeds ∧ mbuttons = buttons ∧ mfriends = friends ∧ mhours = hours ∧ mstorm = storm) ∧
  (∀ m, m < nm → m15 m = c3 m ∧ m16 m = c4 m ∧ m17 m = c5 m) ∧ (∀ d, d < nd → m18 d = c6 d) ∧
  (∀ b, b < nb → m26 b = b7 b ∧ m27 b = b8 b ∧ m28 b = b9 b ∧ m33 b = b10 b ∧ m29 b = b11 b ∧ m30 b = b12 b ∧ m31 b = b13 b) ∧
  (∀ i j, i < nm → j < nm → m19 (6 * i + j) = w14 (6 * i + j))
-- the wear of thread
def isOp (a : Int32) : Prop := a = 43 ∨ a = 45 ∨ a = 42 ∨ a = 47 ∨ a = 37 ∨ a = 60 ∨ a = 62 ∨ a = 61 ∨ a = 38 ∨ a = 124
def wEnc (code step arg : Int32) : Prop :=
  (step = 0 ∧ ∃ k, k ≤ 9999 ∧ arg = nI k ∧ code = nI (1000 + k)) ∨ (step = 1 ∧ ((arg = 0 ∧ code = 116) ∨ (arg = 1 ∧ code = 104) ∨ (arg = 2 ∧ code = 115) ∨ (arg = 3 ∧ code = 100))) ∨ (step = 2 ∧ code = 33) ∨ (step = 3 ∧ code = arg ∧ isOp arg)
def wDep (step : Nat → Int32) : Nat → Nat
  | 0 => 0
  | k + 1 => if step k = 0 ∨ step k = 1 then wDep step k + 1 else if step k = 2 then wDep step k else wDep step k - 1
def wOk (len : Nat) (code step arg : Nat → Int32) : Prop :=
  ∀ k, k < len → wEnc (code k) (step k) (arg k) ∧ (step k = 2 → 1 ≤ wDep step k) ∧ (step k = 3 → 2 ≤ wDep step k) ∧ wDep step (k + 1) ≤ 30
def RW (len units : Int32) (code : Nat → Int32) (hasWear steps munits : Int32) (step arg : Nat → Int32) : Prop :=
  ∃ n, n ≤ 300 ∧ len = nI n ∧ steps = nI n ∧ hasWear = (if n = 0 then 0 else 1) ∧ munits = units ∧ wOk n code step arg
-- a row: how buttons are, their thread, the day, the seed, cuts
def Row (nb : Nat) (f g : Nat → Int32) : Prop :=
  (∀ b, b < nb → g b = f b ∧ g (10 + b) = f (10 + b) ∧ ∃ k, k ≤ 99 ∧ f (10 + b) = nI k) ∧ g 20 = f 20 ∧ g 21 = f 21 ∧ g 22 = f 22 ∧ (∃ k, k ≤ 99 ∧ f 20 = nI k) ∧ ∃ k, k ≤ 3 ∧ f 22 = nI k
def RH (nb : Nat) (done known : Int32) (c42 c44 : Nat → Int32) (acts undone : Int32) (m35 : Nat → Int32) : Prop :=
  ∃ dn kn, dn ≤ kn ∧ kn ≤ 40 ∧ done = nI dn ∧ known = nI kn ∧ acts = nI dn ∧ undone = nI (kn - dn) ∧
    (∀ r, r < dn → Row nb (fun k => c44 (23 * r + k)) (fun k => m35 (24 * r + k))) ∧ (∀ r, dn ≤ r → r < kn → Row nb (fun k => c44 (23 * (r + 1) + k)) (fun k => m35 (24 * r + k))) ∧ ∀ k, k < 23 → c44 (23 * dn + k) = c42 k
def RB (nb : Nat) (filled : Int32) (c45 m50 m51 : Nat → Int32) : Prop :=
  ∃ fl, fl < 8 ∧ filled = nI fl ∧ ∀ x, x < 3 → m50 x = (if fl.testBit x then 1 else 0) ∧ (fl.testBit x = true → Row nb (fun k => c45 (23 * x + k)) (fun k => m51 (24 * x + k)))
def RG (count time : Int32) (c58 c59 c60 c61 c62 : Nat → Int32) (mtugs mtime : Int32) (m45 m46 m47 m48 m49 : Nat → Int32) : Prop :=
  ∃ n t, n ≤ 30 ∧ t ≤ 100000 ∧ count = nI n ∧ time = nI t ∧ mtugs = nI n ∧ mtime = nI t ∧ ∀ j, j < n → m45 j = c58 j ∧ m46 j = c59 j ∧ m49 j = c60 j ∧ m47 j = c61 j ∧ m48 j = c62 j ∧ (c62 j = -1 ∨ ∃ k, k ≤ 100000 ∧ c62 j = nI k) ∧ (∃ w, w ≤ 2 ∧ c58 j = nI w) ∧ (c60 j = 0 ∨ c60 j = 1)
def RLi (count : Int32) (c63 : Nat → Int32) (lain : Int32) (m42 : Nat → Int32) : Prop := ∃ n, n ≤ 10 ∧ count = nI n ∧ lain = nI n ∧ ∀ j, j < n → m42 j = c63 j
def RA (taped : Int32) (c1 : Nat → Int32) (mtaped : Int32) (m1 : Nat → Int32) : Prop := ∃ n, n ≤ 1600 ∧ taped = nI n ∧ mtaped = nI n ∧ ∀ j, j < n → ∃ b, b < 256 ∧ m1 j = nI b ∧ c1 j = (nI b).toInt8.toInt32
def RelP (nm nd nb nf hd st : Nat) (S M : xSt) : Prop :=
  RT nm nd nb nf hd st (S.1 2 0) (S.1 2 4) (S.1 2 6) (S.1 2 14) (S.1 2 17) (S.1 2 18) (S.1 3) (S.1 4) (S.1 5) (S.1 6) (S.1 7) (S.1 8) (S.1 9) (S.1 10) (S.1 11) (S.1 12) (S.1 13) (S.1 14) ∧
  RM nm nd nb (S.1 2 0) (S.1 2 4) (S.1 2 6) (S.1 2 14) (S.1 2 17) (S.1 2 18) (S.1 3) (S.1 4) (S.1 5) (S.1 6) (S.1 7) (S.1 8) (S.1 9) (S.1 10) (S.1 11) (S.1 12) (S.1 13) (S.1 14)
    (M.1 0 56) (M.1 0 57) (M.1 0 58) (M.1 0 59) (M.1 0 60) (M.1 0 61) (M.1 15) (M.1 16) (M.1 17) (M.1 18) (M.1 19) (M.1 26) (M.1 27) (M.1 28) (M.1 29) (M.1 30) (M.1 31) (M.1 33) ∧
  RW (S.1 15 1) (S.1 15 3) (S.1 16) (M.1 0 66) (M.1 0 18) (M.1 0 21) (M.1 5) (M.1 6) ∧
  Row nb (S.1 42) (M.1 34) ∧
  RH nb (S.1 43 4) (S.1 43 5) (S.1 42) (S.1 44) (M.1 0 69) (M.1 0 70) (M.1 35) ∧
  RB nb (S.1 43 3) (S.1 45) (M.1 50) (M.1 51) ∧
  RG (S.1 57 6) (S.1 57 7) (S.1 58) (S.1 59) (S.1 60) (S.1 61) (S.1 62) (M.1 0 93) (M.1 0 94) (M.1 45) (M.1 46) (M.1 47) (M.1 48) (M.1 49) ∧
  RLi (S.1 0 11) (S.1 63) (M.1 0 85) (M.1 42) ∧
  (M.1 0 2 = S.1 0 12 ∧ M.1 0 3 = S.1 0 13) ∧
  RA (S.1 0 1) (S.1 1) (M.1 0 1) (M.1 1)
def Rel (S M : xSt) : Prop := ∃ nm nd nb nf hd st, RelP nm nd nb nf hd st S M
end
