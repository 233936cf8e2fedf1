/-! ===== the pure side: one state for both ===== -/
abbrev mk_S : Type := Nat → Nat → Nat
abbrev mk_T : Type := Nat × Nat
abbrev mk_C : Type := List mk_T × List mk_T
abbrev mk_L : Type := Nat → List mk_C
/-- the sign that is written for a code -/
def mk_sg : Nat → Nat
  | 0 => 48
  | 1 => 108
  | 2 => 43
  | 3 => 45
  | 4 => 42
  | 5 => 47
  | 6 => 61
  | 7 => 60
  | 8 => 62
  | 9 => 33
  | 10 => 38
  | _ => 124
def mk_cd (q : mk_T) : Nat := q.2 * 128 + mk_sg q.1
def mk_ec (q : mk_C) : List Nat := (if q.1 = [] then [] else q.1.map mk_cd ++ [63]) ++ (q.2.map mk_cd ++ [121])
def mk_en : List mk_C → List Nat
  | [] => []
  | q :: C => mk_ec q ++ mk_en C
/-- a row of numbers from a place on -/
def mk_at (f : Nat → Int32) : Nat → List Nat → Prop
  | _, [] => True
  | p, a :: l => f p = nI a ∧ mk_at f (p + 1) l
def mk_tk (f g : Nat → Int32) : Nat → List mk_T → Prop
  | _, [] => True
  | p, q :: l => f p = nI q.1 ∧ g p = nI q.2 ∧ mk_tk f g (p + 1) l
def mk_cl (M : mj_M) (b : Nat) : List mk_C → Nat → Nat → Prop
  | [], _, _ => True
  | q :: C, c, p => M 54 c = nI p ∧ M 55 c = nI (p + q.1.length) ∧ M 56 c = nI (p + q.1.length + q.2.length) ∧ mk_tk (M 50) (M 51) (b + p) q.1 ∧ mk_tk (M 50) (M 51) (b + p + q.1.length) q.2 ∧ mk_cl M b C (c + 1) (p + q.1.length + q.2.length)
/-- what is on the stack of a law: true: a condition -/
def mk_tc (ts : List Bool) (q : mk_T) : Option (List Bool) :=
  if 9999 < q.2 then none
  else if q.1 ≤ 1 then (if ts.length < 32 ∧ (q.1 = 1 → q.2 < 6) then some (false :: ts) else none)
  else if q.1 ≤ 5 then (match ts with | false :: false :: r => some (false :: r) | _ => none)
  else if q.1 ≤ 8 then (match ts with | false :: false :: r => some (true :: r) | _ => none)
  else if q.1 = 9 then (match ts with | true :: r => some (true :: r) | _ => none)
  else if q.1 ≤ 11 then (match ts with | true :: true :: r => some (true :: r) | _ => none)
  else none
def mk_ts : List Bool → List mk_T → Option (List Bool)
  | ts, [] => some ts
  | ts, q :: l => (mk_tc ts q).bind fun t => mk_ts t l
def mk_wc (q : mk_C) : Prop := (q.1 = [] ∨ mk_ts [] q.1 = some [true]) ∧ mk_ts [] q.2 = some [false]
def mk_nt : List mk_C → Nat
  | [] => 0
  | q :: C => q.1.length + q.2.length + mk_nt C
def mk_wl (C : List mk_C) : Prop := (∀ q, q ∈ C → mk_wc q) ∧ (mk_en C).length ≤ 240
/-- one row of how it stands: slots as the reference has them, 229: all tellings that were -/
def mk_xl (T : Nat) (a kn he : Nat → Int32) (sn : Nat → Nat) : Prop := a 0 = nI (sn 42) ∧ a 1 = nI (sn 43) ∧ a 2 = nI (sn 44) ∧ a 3 = nI (sn 45) ∧ a 4 = nI (sn 46) ∧ a 5 = nI (sn 47) ∧ a 6 = nI (sn 229) ∧ (∀ t, t < T → kn t = nI (sn (36 + t))) ∧ (∀ k, k < 36 → he k = nI (sn k))
def mk_xr (ring : Nat → Int32) (sn : Nat → Nat) : Prop := ∀ i, i < sn 48 → ring ((sn 229 - 1 - i) % 100) = nI (1000 * sn (49 + 3 * (sn 48 - 1 - i)) + 100 * sn (50 + 3 * (sn 48 - 1 - i)) + sn (51 + 3 * (sn 48 - 1 - i)))
def mk_wn (H T : Nat) (sn : Nat → Nat) : Prop := (0 < H → sn 42 < H) ∧ sn 42 < 6 ∧ sn 43 < 2 ^ T ∧ sn 44 ≤ 999 ∧ sn 45 ≤ 9999 ∧ sn 46 ≤ sn 46 ∧ sn 47 ≤ sn 47 ∧ sn 229 ≤ sn 45 ∧ sn 48 = min (sn 229) 60 ∧ (∀ t, t < T → sn (36 + t) ≤ 9) ∧ (∀ k, k < 36 → sn k ≤ 99) ∧ (∀ h t, h < 6 → t < 6 → H ≤ h ∨ T ≤ t → sn (h * 6 + t) = 0) ∧ (∀ i, i < sn 48 → sn (49 + 3 * i) < 6 ∧ sn (50 + 3 * i) < 6 ∧ sn (51 + 3 * i) ≤ 20)
def mk_X (S : mk_S) (A : mk_L) (M : mj_M) : Prop := M 0 12 = nI (S 48 30) ∧ (∀ k, k < 5 → M 1 k = nI (S 66 k)) ∧ M 2 1 = nI (S 48 2) ∧ (∀ k, k < S 48 2 → M 3 k = nI (S 49 k)) ∧ M 8 0 = nI (S 48 13) ∧ M 8 1 = nI (S 48 29) - nI 1 ∧ (∀ n, n < S 48 13 → M 11 n = nI (mk_en (A n)).length) ∧ (∀ n, n < S 48 13 → mk_at (M 10) (240 * n) (mk_en (A n))) ∧ M 13 0 = nI (S 48 25) ∧ M 13 1 = nI (S 48 26) ∧ M 13 5 = nI (S 62 3) ∧ (∀ h, h < S 48 25 → M 14 h = nI (S 63 (3 * h))) ∧ (∀ h, h < S 48 25 → M 15 h = nI (S 63 (3 * h + 1))) ∧ (∀ h, h < S 48 25 → M 16 h = nI (S 63 (3 * h + 2))) ∧ (∀ t, t < S 48 26 → M 17 t = nI (S 64 (3 * t))) ∧ (∀ t, t < S 48 26 → M 18 t = nI (S 64 (3 * t + 1))) ∧ (∀ t, t < S 48 26 → M 19 t = nI (S 64 (3 * t + 2))) ∧ mk_xl (S 48 26) (M 20) (M 21) (M 22) (S 65) ∧ mk_xr (M 23) (S 65) ∧ M 24 0 = nI (S 48 32) ∧ M 24 1 = nI (S 48 44) ∧ M 24 2 = nI (S 0 0) ∧ (∀ j, j < S 48 32 → mk_xl (S 48 26) (fun i => M 25 (49 * ((S 0 0 + 39 - j) % 40) + i)) (fun i => M 25 (49 * ((S 0 0 + 39 - j) % 40) + (7 + i))) (fun i => M 25 (49 * ((S 0 0 + 39 - j) % 40) + (13 + i))) (S (100 + j)) ∧ mk_xr (M 23) (S (100 + j))) ∧ (S 48 44 = 1 → mk_xl (S 48 26) (M 26) (fun i => M 26 (7 + i)) (fun i => M 26 (13 + i)) (S 72) ∧ mk_xr (M 27) (S 72)) ∧ M 29 0 = nI (S 48 40) ∧ (∀ i, i < S 48 40 → M 30 i = nI (S 69 i)) ∧ (∀ i, i < S 48 40 → M 31 i = nI (S 70 i)) ∧ (∀ i, i < S 48 40 → M 32 i = nI (S 71 i))
section
variable {S : mk_S} {A : mk_L} {M : mj_M}
theorem mk_X.why (h : mk_X S A M) : M 0 12 = nI (S 48 30) := h.1
theorem mk_X.ref (h : mk_X S A M) : ∀ k, k < 5 → M 1 k = nI (S 66 k) := h.2.1
theorem mk_X.size (h : mk_X S A M) : M 2 1 = nI (S 48 2) := h.2.2.1
theorem mk_X.tape (h : mk_X S A M) : ∀ k, k < S 48 2 → M 3 k = nI (S 49 k) := h.2.2.2.1
theorem mk_X.laws (h : mk_X S A M) : M 8 0 = nI (S 48 13) := h.2.2.2.2.1
theorem mk_X.hold (h : mk_X S A M) : M 8 1 = nI (S 48 29) - nI 1 := h.2.2.2.2.2.1
theorem mk_X.lens (h : mk_X S A M) : ∀ n, n < S 48 13 → M 11 n = nI (mk_en (A n)).length := h.2.2.2.2.2.2.1
theorem mk_X.codes (h : mk_X S A M) : ∀ n, n < S 48 13 → mk_at (M 10) (240 * n) (mk_en (A n)) := h.2.2.2.2.2.2.2.1
theorem mk_X.hs (h : mk_X S A M) : M 13 0 = nI (S 48 25) := h.2.2.2.2.2.2.2.2.1
theorem mk_X.ts (h : mk_X S A M) : M 13 1 = nI (S 48 26) := h.2.2.2.2.2.2.2.2.2.1
theorem mk_X.often (h : mk_X S A M) : M 13 5 = nI (S 62 3) := h.2.2.2.2.2.2.2.2.2.2.1
theorem mk_X.known (h : mk_X S A M) : ∀ h, h < S 48 25 → M 14 h = nI (S 63 (3 * h)) := h.2.2.2.2.2.2.2.2.2.2.2.1
theorem mk_X.cur (h : mk_X S A M) : ∀ h, h < S 48 25 → M 15 h = nI (S 63 (3 * h + 1)) := h.2.2.2.2.2.2.2.2.2.2.2.2.1
theorem mk_X.warm (h : mk_X S A M) : ∀ h, h < S 48 25 → M 16 h = nI (S 63 (3 * h + 2)) := h.2.2.2.2.2.2.2.2.2.2.2.2.2.1
theorem mk_X.len (h : mk_X S A M) : ∀ t, t < S 48 26 → M 17 t = nI (S 64 (3 * t)) := h.2.2.2.2.2.2.2.2.2.2.2.2.2.2.1
theorem mk_X.kn (h : mk_X S A M) : ∀ t, t < S 48 26 → M 18 t = nI (S 64 (3 * t + 1)) := h.2.2.2.2.2.2.2.2.2.2.2.2.2.2.2.1
theorem mk_X.tru (h : mk_X S A M) : ∀ t, t < S 48 26 → M 19 t = nI (S 64 (3 * t + 2)) := h.2.2.2.2.2.2.2.2.2.2.2.2.2.2.2.2.1
theorem mk_X.now (h : mk_X S A M) : mk_xl (S 48 26) (M 20) (M 21) (M 22) (S 65) := h.2.2.2.2.2.2.2.2.2.2.2.2.2.2.2.2.2.1
theorem mk_X.ring (h : mk_X S A M) : mk_xr (M 23) (S 65) := h.2.2.2.2.2.2.2.2.2.2.2.2.2.2.2.2.2.2.1
theorem mk_X.kept (h : mk_X S A M) : M 24 0 = nI (S 48 32) := h.2.2.2.2.2.2.2.2.2.2.2.2.2.2.2.2.2.2.2.1
theorem mk_X.img (h : mk_X S A M) : M 24 1 = nI (S 48 44) := h.2.2.2.2.2.2.2.2.2.2.2.2.2.2.2.2.2.2.2.2.1
theorem mk_X.next (h : mk_X S A M) : M 24 2 = nI (S 0 0) := h.2.2.2.2.2.2.2.2.2.2.2.2.2.2.2.2.2.2.2.2.2.1
theorem mk_X.rows (h : mk_X S A M) : ∀ j, j < S 48 32 → mk_xl (S 48 26) (fun i => M 25 (49 * ((S 0 0 + 39 - j) % 40) + i)) (fun i => M 25 (49 * ((S 0 0 + 39 - j) % 40) + (7 + i))) (fun i => M 25 (49 * ((S 0 0 + 39 - j) % 40) + (13 + i))) (S (100 + j)) ∧ mk_xr (M 23) (S (100 + j)) := h.2.2.2.2.2.2.2.2.2.2.2.2.2.2.2.2.2.2.2.2.2.2.1
theorem mk_X.image (h : mk_X S A M) : (S 48 44 = 1 → mk_xl (S 48 26) (M 26) (fun i => M 26 (7 + i)) (fun i => M 26 (13 + i)) (S 72) ∧ mk_xr (M 27) (S 72)) := h.2.2.2.2.2.2.2.2.2.2.2.2.2.2.2.2.2.2.2.2.2.2.2.1
theorem mk_X.sights (h : mk_X S A M) : M 29 0 = nI (S 48 40) := h.2.2.2.2.2.2.2.2.2.2.2.2.2.2.2.2.2.2.2.2.2.2.2.2.1
theorem mk_X.sh (h : mk_X S A M) : ∀ i, i < S 48 40 → M 30 i = nI (S 69 i) := h.2.2.2.2.2.2.2.2.2.2.2.2.2.2.2.2.2.2.2.2.2.2.2.2.2.1
theorem mk_X.sb (h : mk_X S A M) : ∀ i, i < S 48 40 → M 31 i = nI (S 70 i) := h.2.2.2.2.2.2.2.2.2.2.2.2.2.2.2.2.2.2.2.2.2.2.2.2.2.2.1
theorem mk_X.si (h : mk_X S A M) : ∀ i, i < S 48 40 → M 32 i = nI (S 71 i) := h.2.2.2.2.2.2.2.2.2.2.2.2.2.2.2.2.2.2.2.2.2.2.2.2.2.2.2
end
def mk_M (S : mk_S) (A : mk_L) (M : mj_M) : Prop := M 48 2 = nI (S 48 2) ∧ M 48 13 = nI (S 48 13) ∧ M 48 25 = nI (S 48 25) ∧ M 48 26 = nI (S 48 26) ∧ M 48 29 = nI (S 48 29) - nI 1 ∧ M 48 30 = nI (S 48 30) ∧ M 48 32 = nI (S 48 32) ∧ M 48 40 = nI (S 48 40) ∧ M 48 44 = nI (S 48 44) ∧ (∀ k, k < S 48 2 → M 49 k = nI (S 49 k)) ∧ (∀ n, n < S 48 13 → M 53 n = nI (A n).length) ∧ (∀ n, n < S 48 13 → mk_cl M (520 * n) (A n) (140 * n) 0) ∧ M 62 3 = nI (S 62 3) ∧ (∀ k, k < 3 * S 48 25 → M 63 k = nI (S 63 k)) ∧ (∀ k, k < 3 * S 48 26 → M 64 k = nI (S 64 k)) ∧ (∀ k, k < 229 → M 65 k = nI (S 65 k)) ∧ (∀ k, k < 5 → M 66 k = nI (S 66 k)) ∧ (∀ j, j < S 48 32 → ∀ k, k < 229 → M 67 (229 * (S 48 32 - 1 - j) + k) = nI (S (100 + j) k)) ∧ (∀ i, i < S 48 40 → M 69 i = nI (S 69 i)) ∧ (∀ i, i < S 48 40 → M 70 i = nI (S 70 i)) ∧ (∀ i, i < S 48 40 → M 71 i = nI (S 71 i)) ∧ (S 48 44 = 1 → ∀ k, k < 229 → M 72 k = nI (S 72 k))
section
variable {S : mk_S} {A : mk_L} {M : mj_M}
theorem mk_M.size (h : mk_M S A M) : M 48 2 = nI (S 48 2) := h.1
theorem mk_M.laws (h : mk_M S A M) : M 48 13 = nI (S 48 13) := h.2.1
theorem mk_M.hs (h : mk_M S A M) : M 48 25 = nI (S 48 25) := h.2.2.1
theorem mk_M.ts (h : mk_M S A M) : M 48 26 = nI (S 48 26) := h.2.2.2.1
theorem mk_M.hold (h : mk_M S A M) : M 48 29 = nI (S 48 29) - nI 1 := h.2.2.2.2.1
theorem mk_M.why (h : mk_M S A M) : M 48 30 = nI (S 48 30) := h.2.2.2.2.2.1
theorem mk_M.kept (h : mk_M S A M) : M 48 32 = nI (S 48 32) := h.2.2.2.2.2.2.1
theorem mk_M.sights (h : mk_M S A M) : M 48 40 = nI (S 48 40) := h.2.2.2.2.2.2.2.1
theorem mk_M.img (h : mk_M S A M) : M 48 44 = nI (S 48 44) := h.2.2.2.2.2.2.2.2.1
theorem mk_M.tape (h : mk_M S A M) : ∀ k, k < S 48 2 → M 49 k = nI (S 49 k) := h.2.2.2.2.2.2.2.2.2.1
theorem mk_M.lens (h : mk_M S A M) : ∀ n, n < S 48 13 → M 53 n = nI (A n).length := h.2.2.2.2.2.2.2.2.2.2.1
theorem mk_M.codes (h : mk_M S A M) : ∀ n, n < S 48 13 → mk_cl M (520 * n) (A n) (140 * n) 0 := h.2.2.2.2.2.2.2.2.2.2.2.1
theorem mk_M.often (h : mk_M S A M) : M 62 3 = nI (S 62 3) := h.2.2.2.2.2.2.2.2.2.2.2.2.1
theorem mk_M.house (h : mk_M S A M) : ∀ k, k < 3 * S 48 25 → M 63 k = nI (S 63 k) := h.2.2.2.2.2.2.2.2.2.2.2.2.2.1
theorem mk_M.tale (h : mk_M S A M) : ∀ k, k < 3 * S 48 26 → M 64 k = nI (S 64 k) := h.2.2.2.2.2.2.2.2.2.2.2.2.2.2.1
theorem mk_M.now (h : mk_M S A M) : ∀ k, k < 229 → M 65 k = nI (S 65 k) := h.2.2.2.2.2.2.2.2.2.2.2.2.2.2.2.1
theorem mk_M.ref (h : mk_M S A M) : ∀ k, k < 5 → M 66 k = nI (S 66 k) := h.2.2.2.2.2.2.2.2.2.2.2.2.2.2.2.2.1
theorem mk_M.rows (h : mk_M S A M) : ∀ j, j < S 48 32 → ∀ k, k < 229 → M 67 (229 * (S 48 32 - 1 - j) + k) = nI (S (100 + j) k) := h.2.2.2.2.2.2.2.2.2.2.2.2.2.2.2.2.2.1
theorem mk_M.sh (h : mk_M S A M) : ∀ i, i < S 48 40 → M 69 i = nI (S 69 i) := h.2.2.2.2.2.2.2.2.2.2.2.2.2.2.2.2.2.2.1
theorem mk_M.sb (h : mk_M S A M) : ∀ i, i < S 48 40 → M 70 i = nI (S 70 i) := h.2.2.2.2.2.2.2.2.2.2.2.2.2.2.2.2.2.2.2.1
theorem mk_M.si (h : mk_M S A M) : ∀ i, i < S 48 40 → M 71 i = nI (S 71 i) := h.2.2.2.2.2.2.2.2.2.2.2.2.2.2.2.2.2.2.2.2.1
theorem mk_M.image (h : mk_M S A M) : (S 48 44 = 1 → ∀ k, k < 229 → M 72 k = nI (S 72 k)) := h.2.2.2.2.2.2.2.2.2.2.2.2.2.2.2.2.2.2.2.2.2
end
def mk_W (S : mk_S) (A : mk_L) : Prop := S 48 25 ≤ 6 ∧ S 48 26 ≤ 6 ∧ (S 48 25 = 0 ∧ S 48 26 = 0 ∨ 2 ≤ S 48 25 ∧ 1 ≤ S 48 26) ∧ S 48 2 ≤ 240 ∧ (∀ k, k < S 48 2 → 0 < S 49 k ∧ S 49 k < 256) ∧ S 48 13 ≤ 4 ∧ S 48 29 ≤ S 48 13 ∧ S 48 30 ≤ 9 ∧ S 48 32 ≤ 40 ∧ S 48 40 ≤ 10 ∧ S 48 44 ≤ 1 ∧ S 0 0 < 40 ∧ S 62 3 ≤ 9 ∧ (∀ h, h < S 48 25 → S 63 (3 * h) < 64 ∧ S 63 (3 * h + 1) ≤ 9 ∧ S 63 (3 * h + 2) ≤ 9) ∧ (∀ t, t < S 48 26 → 1 ≤ S 64 (3 * t) ∧ S 64 (3 * t) ≤ 9 ∧ S 64 (3 * t + 1) ≤ 9 ∧ S 64 (3 * t + 2) ≤ 1) ∧ mk_wn (S 48 25) (S 48 26) (S 65) ∧ (∀ j, j < S 48 32 → mk_wn (S 48 25) (S 48 26) (S (100 + j)) ∧ S (100 + j) 229 ≤ S 65 229 ∧ S 65 229 ≤ S (100 + j) 229 + j + 1) ∧ (0 < S 48 32 → 0 < S 48 25) ∧ (S 48 44 = 1 → 0 < S 48 25 ∧ mk_wn (S 48 25) (S 48 26) (S 72)) ∧ (∀ i, i < S 48 40 → S 69 i < S 48 25 ∧ S 70 i ≤ 20 ∧ S 71 i ≤ 1) ∧ (∀ n, n < S 48 13 → mk_wl (A n)) ∧ (∀ j, j + 1 < S 48 32 → S (100 + (j + 1)) 229 ≤ S (100 + j) 229 ∧ S (100 + j) 229 ≤ S (100 + (j + 1)) 229 + 1)
section
variable {S : mk_S} {A : mk_L} {M : mj_M}
theorem mk_W.h6 (h : mk_W S A) : S 48 25 ≤ 6 := h.1
theorem mk_W.t6 (h : mk_W S A) : S 48 26 ≤ 6 := h.2.1
theorem mk_W.ht (h : mk_W S A) : (S 48 25 = 0 ∧ S 48 26 = 0 ∨ 2 ≤ S 48 25 ∧ 1 ≤ S 48 26) := h.2.2.1
theorem mk_W.size (h : mk_W S A) : S 48 2 ≤ 240 := h.2.2.2.1
theorem mk_W.byte (h : mk_W S A) : ∀ k, k < S 48 2 → 0 < S 49 k ∧ S 49 k < 256 := h.2.2.2.2.1
theorem mk_W.laws (h : mk_W S A) : S 48 13 ≤ 4 := h.2.2.2.2.2.1
theorem mk_W.hold (h : mk_W S A) : S 48 29 ≤ S 48 13 := h.2.2.2.2.2.2.1
theorem mk_W.why (h : mk_W S A) : S 48 30 ≤ 9 := h.2.2.2.2.2.2.2.1
theorem mk_W.kept (h : mk_W S A) : S 48 32 ≤ 40 := h.2.2.2.2.2.2.2.2.1
theorem mk_W.sights (h : mk_W S A) : S 48 40 ≤ 10 := h.2.2.2.2.2.2.2.2.2.1
theorem mk_W.img (h : mk_W S A) : S 48 44 ≤ 1 := h.2.2.2.2.2.2.2.2.2.2.1
theorem mk_W.next (h : mk_W S A) : S 0 0 < 40 := h.2.2.2.2.2.2.2.2.2.2.2.1
theorem mk_W.often (h : mk_W S A) : S 62 3 ≤ 9 := h.2.2.2.2.2.2.2.2.2.2.2.2.1
theorem mk_W.house (h : mk_W S A) : ∀ h, h < S 48 25 → S 63 (3 * h) < 64 ∧ S 63 (3 * h + 1) ≤ 9 ∧ S 63 (3 * h + 2) ≤ 9 := h.2.2.2.2.2.2.2.2.2.2.2.2.2.1
theorem mk_W.tale (h : mk_W S A) : ∀ t, t < S 48 26 → 1 ≤ S 64 (3 * t) ∧ S 64 (3 * t) ≤ 9 ∧ S 64 (3 * t + 1) ≤ 9 ∧ S 64 (3 * t + 2) ≤ 1 := h.2.2.2.2.2.2.2.2.2.2.2.2.2.2.1
theorem mk_W.now (h : mk_W S A) : mk_wn (S 48 25) (S 48 26) (S 65) := h.2.2.2.2.2.2.2.2.2.2.2.2.2.2.2.1
theorem mk_W.rows (h : mk_W S A) : ∀ j, j < S 48 32 → mk_wn (S 48 25) (S 48 26) (S (100 + j)) ∧ S (100 + j) 229 ≤ S 65 229 ∧ S 65 229 ≤ S (100 + j) 229 + j + 1 := h.2.2.2.2.2.2.2.2.2.2.2.2.2.2.2.2.1
theorem mk_W.kh (h : mk_W S A) : (0 < S 48 32 → 0 < S 48 25) := h.2.2.2.2.2.2.2.2.2.2.2.2.2.2.2.2.2.1
theorem mk_W.image (h : mk_W S A) : (S 48 44 = 1 → 0 < S 48 25 ∧ mk_wn (S 48 25) (S 48 26) (S 72)) := h.2.2.2.2.2.2.2.2.2.2.2.2.2.2.2.2.2.2.1
theorem mk_W.seen (h : mk_W S A) : ∀ i, i < S 48 40 → S 69 i < S 48 25 ∧ S 70 i ≤ 20 ∧ S 71 i ≤ 1 := h.2.2.2.2.2.2.2.2.2.2.2.2.2.2.2.2.2.2.2.1
theorem mk_W.wl (h : mk_W S A) : ∀ n, n < S 48 13 → mk_wl (A n) := h.2.2.2.2.2.2.2.2.2.2.2.2.2.2.2.2.2.2.2.2.1
theorem mk_W.chain (h : mk_W S A) : ∀ j, j + 1 < S 48 32 → S (100 + (j + 1)) 229 ≤ S (100 + j) 229 ∧ S (100 + j) 229 ≤ S (100 + (j + 1)) 229 + 1 := h.2.2.2.2.2.2.2.2.2.2.2.2.2.2.2.2.2.2.2.2.2
end
def mk_I (M : mj_M) : Prop := ∃ S A, mk_W S A ∧ mk_X S A M ∧ mk_M S A M
/-- what the written side leaves as it was, what the other does -/
def mk_fx (M M' : mj_M) : Prop := ∀ c, 48 ≤ c → M' c = M c
def mk_fm (M M' : mj_M) : Prop := ∀ c, c < 48 → M' c = M c
theorem mk_fx.rf {M : mj_M} : mk_fx M M := fun _ _ => rfl
theorem mk_fm.rf {M : mj_M} : mk_fm M M := fun _ _ => rfl
theorem mk_fx.tr {M M1 M2 : mj_M} (h : mk_fx M M1) (k : mk_fx M1 M2) : mk_fx M M2 := fun c hc => (k c hc).trans (h c hc)
theorem mk_fm.tr {M M1 M2 : mj_M} (h : mk_fm M M1) (k : mk_fm M1 M2) : mk_fm M M2 := fun c hc => (k c hc).trans (h c hc)
theorem mk_fx.u {M M1 : mj_M} {c k : Nat} {v : Int32} (h : mk_fx M M1) (hc : c < 48) : mk_fx M (mj_u M1 c k v) := fun d hd => by rw [nw_u9 _ (by omega), h d hd]
theorem mk_fm.u {M M1 : mj_M} {c k : Nat} {v : Int32} (h : mk_fm M M1) (hc : 48 ≤ c) : mk_fm M (mj_u M1 c k v) := fun d hd => by rw [nw_u9 _ (by omega), h d hd]
theorem mk_fx.a {M M1 : mj_M} {c : Nat} {f : Nat → Int32} (h : mk_fx M M1) (hc : c < 48) : mk_fx M (mj_a M1 c f) := fun d hd => by rw [nw_a9 _ (by omega), h d hd]
theorem mk_fm.a {M M1 : mj_M} {c : Nat} {f : Nat → Int32} (h : mk_fm M M1) (hc : 48 ≤ c) : mk_fm M (mj_a M1 c f) := fun d hd => by rw [nw_a9 _ (by omega), h d hd]
theorem mk_cl_cg {M M' : mj_M} {b : Nat} (h0 : M' 50 = M 50) (h1 : M' 51 = M 51) (h4 : M' 54 = M 54) (h5 : M' 55 = M 55) (h6 : M' 56 = M 56) : ∀ (C : List mk_C) (c p : Nat), mk_cl M b C c p → mk_cl M' b C c p := by
  intro C
  induction C with
  | nil => intro c p _; trivial
  | cons q C ih =>
    intro c p h
    obtain ⟨e4, e5, e6, t1, t2, r⟩ := h
    refine ⟨by rw [h4]; exact e4, by rw [h5]; exact e5, by rw [h6]; exact e6, by rw [h0, h1]; exact t1, by rw [h0, h1]; exact t2, ih _ _ r⟩
theorem mk_X.cg {S : mk_S} {A : mk_L} {M M' : mj_M} (h : mk_X S A M) (h0 : M' 0 = M 0) (h1 : M' 1 = M 1) (h2 : M' 2 = M 2) (h3 : M' 3 = M 3) (h8 : M' 8 = M 8) (h10 : M' 10 = M 10) (h11 : M' 11 = M 11) (h13 : M' 13 = M 13) (h14 : M' 14 = M 14) (h15 : M' 15 = M 15) (h16 : M' 16 = M 16) (h17 : M' 17 = M 17) (h18 : M' 18 = M 18) (h19 : M' 19 = M 19) (h20 : M' 20 = M 20) (h21 : M' 21 = M 21) (h22 : M' 22 = M 22) (h23 : M' 23 = M 23) (h24 : M' 24 = M 24) (h25 : M' 25 = M 25) (h26 : M' 26 = M 26) (h27 : M' 27 = M 27) (h29 : M' 29 = M 29) (h30 : M' 30 = M 30) (h31 : M' 31 = M 31) (h32 : M' 32 = M 32) : mk_X S A M' := by
  unfold mk_X at h ⊢
  simp only [h0, h1, h2, h3, h8, h10, h11, h13, h14, h15, h16, h17, h18, h19, h20, h21, h22, h23, h24, h25, h26, h27, h29, h30, h31, h32]
  exact h
/-- scratch of the written one: its law's letters and stack, plans, duel -/
def mk_sx (c : Nat) : Prop := c = 9 ∨ c = 12 ∨ c = 4 ∨ c = 5 ∨ c = 6 ∨ c = 7 ∨ 33 ≤ c
theorem mk_X.sc {S : mk_S} {A : mk_L} {M M' : mj_M} (h : mk_X S A M) (k : ∀ c, ¬ mk_sx c → M' c = M c) : mk_X S A M' :=
  h.cg (k 0 (by unfold mk_sx; omega)) (k 1 (by unfold mk_sx; omega)) (k 2 (by unfold mk_sx; omega)) (k 3 (by unfold mk_sx; omega)) (k 8 (by unfold mk_sx; omega)) (k 10 (by unfold mk_sx; omega)) (k 11 (by unfold mk_sx; omega)) (k 13 (by unfold mk_sx; omega)) (k 14 (by unfold mk_sx; omega)) (k 15 (by unfold mk_sx; omega)) (k 16 (by unfold mk_sx; omega)) (k 17 (by unfold mk_sx; omega)) (k 18 (by unfold mk_sx; omega)) (k 19 (by unfold mk_sx; omega)) (k 20 (by unfold mk_sx; omega)) (k 21 (by unfold mk_sx; omega)) (k 22 (by unfold mk_sx; omega)) (k 23 (by unfold mk_sx; omega)) (k 24 (by unfold mk_sx; omega)) (k 25 (by unfold mk_sx; omega)) (k 26 (by unfold mk_sx; omega)) (k 27 (by unfold mk_sx; omega)) (k 29 (by unfold mk_sx; omega)) (k 30 (by unfold mk_sx; omega)) (k 31 (by unfold mk_sx; omega)) (k 32 (by unfold mk_sx; omega))
theorem mk_M.cg {S : mk_S} {A : mk_L} {M M' : mj_M} (h : mk_M S A M) (g2 : M' 48 2 = M 48 2) (g13 : M' 48 13 = M 48 13) (g25 : M' 48 25 = M 48 25) (g26 : M' 48 26 = M 48 26) (g29 : M' 48 29 = M 48 29) (g30 : M' 48 30 = M 48 30) (g32 : M' 48 32 = M 48 32) (g40 : M' 48 40 = M 48 40) (g44 : M' 48 44 = M 48 44) (h49 : M' 49 = M 49) (h50 : M' 50 = M 50) (h51 : M' 51 = M 51) (h53 : M' 53 = M 53) (h54 : M' 54 = M 54) (h55 : M' 55 = M 55) (h56 : M' 56 = M 56) (h62 : M' 62 = M 62) (h63 : M' 63 = M 63) (h64 : M' 64 = M 64) (h65 : M' 65 = M 65) (h66 : M' 66 = M 66) (h67 : M' 67 = M 67) (h69 : M' 69 = M 69) (h70 : M' 70 = M 70) (h71 : M' 71 = M 71) (h72 : M' 72 = M 72) : mk_M S A M' := by
  have hc := h.codes
  unfold mk_M at h ⊢
  simp only [g2, g13, g25, g26, g29, g30, g32, g40, g44, h49, h53, h62, h63, h64, h65, h66, h67, h69, h70, h71, h72]
  refine ⟨h.1, h.2.1, h.2.2.1, h.2.2.2.1, h.2.2.2.2.1, h.2.2.2.2.2.1, h.2.2.2.2.2.2.1, h.2.2.2.2.2.2.2.1, h.2.2.2.2.2.2.2.2.1, h.2.2.2.2.2.2.2.2.2.1, h.2.2.2.2.2.2.2.2.2.2.1, fun n hn => mk_cl_cg h50 h51 h54 h55 h56 _ _ _ (hc n hn), h.2.2.2.2.2.2.2.2.2.2.2.2.1, h.2.2.2.2.2.2.2.2.2.2.2.2.2.1, h.2.2.2.2.2.2.2.2.2.2.2.2.2.2.1, h.2.2.2.2.2.2.2.2.2.2.2.2.2.2.2.1, h.2.2.2.2.2.2.2.2.2.2.2.2.2.2.2.2.1, h.2.2.2.2.2.2.2.2.2.2.2.2.2.2.2.2.2.1, h.2.2.2.2.2.2.2.2.2.2.2.2.2.2.2.2.2.2.1, h.2.2.2.2.2.2.2.2.2.2.2.2.2.2.2.2.2.2.2.1, h.2.2.2.2.2.2.2.2.2.2.2.2.2.2.2.2.2.2.2.2.1, h.2.2.2.2.2.2.2.2.2.2.2.2.2.2.2.2.2.2.2.2.2⟩
theorem mk_M.fx {S : mk_S} {A : mk_L} {M M' : mj_M} (h : mk_M S A M) (k : mk_fx M M') : mk_M S A M' :=
  h.cg (congrFun (k 48 (by omega)) _) (congrFun (k 48 (by omega)) _) (congrFun (k 48 (by omega)) _) (congrFun (k 48 (by omega)) _) (congrFun (k 48 (by omega)) _) (congrFun (k 48 (by omega)) _) (congrFun (k 48 (by omega)) _) (congrFun (k 48 (by omega)) _) (congrFun (k 48 (by omega)) _) (k _ (by omega)) (k _ (by omega)) (k _ (by omega)) (k _ (by omega)) (k _ (by omega)) (k _ (by omega)) (k _ (by omega)) (k _ (by omega)) (k _ (by omega)) (k _ (by omega)) (k _ (by omega)) (k _ (by omega)) (k _ (by omega)) (k _ (by omega)) (k _ (by omega)) (k _ (by omega)) (k _ (by omega))
theorem mk_X.fm {S : mk_S} {A : mk_L} {M M' : mj_M} (h : mk_X S A M) (k : mk_fm M M') : mk_X S A M' :=
  h.cg (k _ (by omega)) (k _ (by omega)) (k _ (by omega)) (k _ (by omega)) (k _ (by omega)) (k _ (by omega)) (k _ (by omega)) (k _ (by omega)) (k _ (by omega)) (k _ (by omega)) (k _ (by omega)) (k _ (by omega)) (k _ (by omega)) (k _ (by omega)) (k _ (by omega)) (k _ (by omega)) (k _ (by omega)) (k _ (by omega)) (k _ (by omega)) (k _ (by omega)) (k _ (by omega)) (k _ (by omega)) (k _ (by omega)) (k _ (by omega)) (k _ (by omega)) (k _ (by omega))
/-- scratch of the reference: cell and slot -/
def mk_sm (c k : Nat) : Prop := c < 48 ∨ c = 57 ∨ c = 58 ∨ c = 59 ∨ c = 60 ∨ c = 61 ∨ c = 68 ∨ c = 73 ∨ c = 48 ∧ k ≠ 2 ∧ k ≠ 13 ∧ k ≠ 25 ∧ k ≠ 26 ∧ k ≠ 29 ∧ k ≠ 30 ∧ k ≠ 32 ∧ k ≠ 40 ∧ k ≠ 44
theorem mk_M.sc {S : mk_S} {A : mk_L} {M M' : mj_M} (h : mk_M S A M) (k : ∀ c j, ¬ mk_sm c j → M' c j = M c j) : mk_M S A M' :=
  h.cg (k 48 2 (by unfold mk_sm; omega)) (k 48 13 (by unfold mk_sm; omega)) (k 48 25 (by unfold mk_sm; omega)) (k 48 26 (by unfold mk_sm; omega)) (k 48 29 (by unfold mk_sm; omega)) (k 48 30 (by unfold mk_sm; omega)) (k 48 32 (by unfold mk_sm; omega)) (k 48 40 (by unfold mk_sm; omega)) (k 48 44 (by unfold mk_sm; omega)) (funext fun j => k 49 j (by unfold mk_sm; omega)) (funext fun j => k 50 j (by unfold mk_sm; omega)) (funext fun j => k 51 j (by unfold mk_sm; omega)) (funext fun j => k 53 j (by unfold mk_sm; omega)) (funext fun j => k 54 j (by unfold mk_sm; omega)) (funext fun j => k 55 j (by unfold mk_sm; omega)) (funext fun j => k 56 j (by unfold mk_sm; omega)) (funext fun j => k 62 j (by unfold mk_sm; omega)) (funext fun j => k 63 j (by unfold mk_sm; omega)) (funext fun j => k 64 j (by unfold mk_sm; omega)) (funext fun j => k 65 j (by unfold mk_sm; omega)) (funext fun j => k 66 j (by unfold mk_sm; omega)) (funext fun j => k 67 j (by unfold mk_sm; omega)) (funext fun j => k 69 j (by unfold mk_sm; omega)) (funext fun j => k 70 j (by unfold mk_sm; omega)) (funext fun j => k 71 j (by unfold mk_sm; omega)) (funext fun j => k 72 j (by unfold mk_sm; omega))
/-- a run of the written side, of the other: from S to S', with an answer -/
def mk_QX (S S' : mk_S) (A A' : mk_L) (f : mj_M → Option (Int32 × mj_M)) (r : Int32) : Prop := ∀ M, mk_X S A M → ∃ M', f M = some (r, M') ∧ mk_X S' A' M' ∧ mk_fx M M'
def mk_QM (S S' : mk_S) (A A' : mk_L) (f : mj_M → Option (Int32 × mj_M)) (r : Int32) : Prop := ∀ M, mk_M S A M → ∃ M', f M = some (r, M') ∧ mk_M S' A' M' ∧ mk_fm M M'
def mk_PX (S S' : mk_S) (A A' : mk_L) (f : mj_M → Option mj_M) : Prop := ∀ M, mk_X S A M → ∃ M', f M = some M' ∧ mk_X S' A' M' ∧ mk_fx M M'
def mk_PM (S S' : mk_S) (A A' : mk_L) (f : mj_M → Option mj_M) : Prop := ∀ M, mk_M S A M → ∃ M', f M = some M' ∧ mk_M S' A' M' ∧ mk_fm M M'
theorem mk_fin {S S' : mk_S} {A A' : mk_L} {f g : mj_M → Option (Int32 × mj_M)} {r : Int32} {M : mj_M} (hw : mk_W S' A') (hX : mk_X S A M) (hM : mk_M S A M) (h : mk_QX S S' A A' f r) (k : mk_QM S S' A A' g r) : ∃ r M1 M2, f M = some (r, M1) ∧ g M1 = some (r, M2) ∧ mk_I M2 := by
  obtain ⟨M1, e1, x1, f1⟩ := h M hX
  obtain ⟨M2, e2, x2, f2⟩ := k M1 (hM.fx f1)
  exact ⟨r, M1, M2, e1, e2, S', A', hw, x1.fm f2, x2⟩
theorem mk_QX.same {S : mk_S} {A : mk_L} {f : mj_M → Option (Int32 × mj_M)} {r : Int32} (h : ∀ M, mk_X S A M → f M = some (r, M)) : mk_QX S S A A f r := fun M hM => ⟨M, h M hM, hM, mk_fx.rf⟩
theorem mk_QM.same {S : mk_S} {A : mk_L} {f : mj_M → Option (Int32 × mj_M)} {r : Int32} (h : ∀ M, mk_M S A M → f M = some (r, M)) : mk_QM S S A A f r := fun M hM => ⟨M, h M hM, hM, mk_fm.rf⟩
