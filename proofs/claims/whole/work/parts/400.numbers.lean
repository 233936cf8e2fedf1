/-! ===== the pure side: numbers ===== -/
theorem nl_m1 : (-1 : Int32) = -nI 1 := rfl
theorem nl_0 : (0 : Int32) = nI 0 := rfl
theorem nl_1 : (1 : Int32) = nI 1 := rfl
theorem nl_2 : (2 : Int32) = nI 2 := rfl
theorem nl_3 : (3 : Int32) = nI 3 := rfl
theorem nl_4 : (4 : Int32) = nI 4 := rfl
theorem nl_5 : (5 : Int32) = nI 5 := rfl
theorem nl_6 : (6 : Int32) = nI 6 := rfl
theorem nl_7 : (7 : Int32) = nI 7 := rfl
theorem nl_8 : (8 : Int32) = nI 8 := rfl
theorem nl_9 : (9 : Int32) = nI 9 := rfl
theorem nl_10 : (10 : Int32) = nI 10 := rfl
theorem nl_11 : (11 : Int32) = nI 11 := rfl
theorem nl_12 : (12 : Int32) = nI 12 := rfl
theorem nl_13 : (13 : Int32) = nI 13 := rfl
theorem nl_14 : (14 : Int32) = nI 14 := rfl
theorem nl_20 : (20 : Int32) = nI 20 := rfl
theorem nl_24 : (24 : Int32) = nI 24 := rfl
theorem nl_31 : (31 : Int32) = nI 31 := rfl
theorem nl_32 : (32 : Int32) = nI 32 := rfl
theorem nl_33 : (33 : Int32) = nI 33 := rfl
theorem nl_36 : (36 : Int32) = nI 36 := rfl
theorem nl_38 : (38 : Int32) = nI 38 := rfl
theorem nl_39 : (39 : Int32) = nI 39 := rfl
theorem nl_40 : (40 : Int32) = nI 40 := rfl
theorem nl_41 : (41 : Int32) = nI 41 := rfl
theorem nl_42 : (42 : Int32) = nI 42 := rfl
theorem nl_43 : (43 : Int32) = nI 43 := rfl
theorem nl_44 : (44 : Int32) = nI 44 := rfl
theorem nl_45 : (45 : Int32) = nI 45 := rfl
theorem nl_46 : (46 : Int32) = nI 46 := rfl
theorem nl_47 : (47 : Int32) = nI 47 := rfl
theorem nl_48 : (48 : Int32) = nI 48 := rfl
theorem nl_49 : (49 : Int32) = nI 49 := rfl
theorem nl_50 : (50 : Int32) = nI 50 := rfl
theorem nl_52 : (52 : Int32) = nI 52 := rfl
theorem nl_57 : (57 : Int32) = nI 57 := rfl
theorem nl_58 : (58 : Int32) = nI 58 := rfl
theorem nl_59 : (59 : Int32) = nI 59 := rfl
theorem nl_60 : (60 : Int32) = nI 60 := rfl
theorem nl_61 : (61 : Int32) = nI 61 := rfl
theorem nl_62 : (62 : Int32) = nI 62 := rfl
theorem nl_63 : (63 : Int32) = nI 63 := rfl
theorem nl_91 : (91 : Int32) = nI 91 := rfl
theorem nl_93 : (93 : Int32) = nI 93 := rfl
theorem nl_97 : (97 : Int32) = nI 97 := rfl
theorem nl_98 : (98 : Int32) = nI 98 := rfl
theorem nl_99 : (99 : Int32) = nI 99 := rfl
theorem nl_100 : (100 : Int32) = nI 100 := rfl
theorem nl_104 : (104 : Int32) = nI 104 := rfl
theorem nl_107 : (107 : Int32) = nI 107 := rfl
theorem nl_108 : (108 : Int32) = nI 108 := rfl
theorem nl_109 : (109 : Int32) = nI 109 := rfl
theorem nl_110 : (110 : Int32) = nI 110 := rfl
theorem nl_111 : (111 : Int32) = nI 111 := rfl
theorem nl_114 : (114 : Int32) = nI 114 := rfl
theorem nl_115 : (115 : Int32) = nI 115 := rfl
theorem nl_116 : (116 : Int32) = nI 116 := rfl
theorem nl_119 : (119 : Int32) = nI 119 := rfl
theorem nl_121 : (121 : Int32) = nI 121 := rfl
theorem nl_124 : (124 : Int32) = nI 124 := rfl
theorem nl_127 : (127 : Int32) = nI 127 := rfl
theorem nl_140 : (140 : Int32) = nI 140 := rfl
theorem nl_229 : (229 : Int32) = nI 229 := rfl
theorem nl_240 : (240 : Int32) = nI 240 := rfl
theorem nl_255 : (255 : Int32) = nI 255 := rfl
theorem nl_520 : (520 : Int32) = nI 520 := rfl
theorem nl_999 : (999 : Int32) = nI 999 := rfl
theorem nl_1000 : (1000 : Int32) = nI 1000 := rfl
theorem nl_9999 : (9999 : Int32) = nI 9999 := rfl
theorem nw_ck {R : Type} {o : Option R} {a n : Nat} (h : a < n) (hn : n < 2 ^ 31) : mj_ck (nI a) n o = o := by
  unfold mj_ck; exact if_neg (nI_in h hn)
theorem nw_ac {R : Type} {o : Option R} {a b c n m : Nat} (h : a + c ≤ n) (h' : b + c ≤ m) (hn : n < 2 ^ 31) (hm : m < 2 ^ 31) : mj_ac (nI a) (nI b) (nI c) n m o = o := by
  unfold mj_ac
  refine if_neg ?_
  rw [nI_clamp (by omega : a < 2 ^ 31), nI_clamp (by omega : b < 2 ^ 31), nI_clamp (by omega : c < 2 ^ 31)]
  rintro (h | h | h | h | h)
  · exact nI_pos (by omega) h
  · exact nI_pos (by omega) h
  · exact nI_pos (by omega) h
  · omega
  · omega
theorem nw_neg {a : Nat} (h : a < 2 ^ 31) : (nI a < 0) = False := eq_false (nI_pos h)
theorem nw_le {a b : Nat} (ha : a < 2 ^ 31) (hb : b < 2 ^ 31) : (nI a ≤ nI b) = (a ≤ b) := propext (nI_leI ha hb)
theorem nw_lt {a b : Nat} (ha : a < 2 ^ 31) (hb : b < 2 ^ 31) : (nI a < nI b) = (a < b) := propext (nI_ltI ha hb)
theorem nw_eq {a b : Nat} (ha : a < 2 ^ 31) (hb : b < 2 ^ 31) : (nI a = nI b) = (a = b) := propext (nI_eq ha hb)
theorem nw_m1T : (-nI 1 : Int32).toInt = -1 := by decide +kernel
theorem nw_eqm {a : Nat} (ha : a < 2 ^ 31) : (nI a = -nI 1) = False := by
  refine eq_false fun h => ?_
  have := congrArg Int32.toInt h
  rw [nI_toInt ha, nw_m1T] at this
  omega
theorem nw_meq {a : Nat} (ha : a < 2 ^ 31) : (-nI 1 = nI a) = False := by
  refine eq_false fun h => ?_
  have := congrArg Int32.toInt h
  rw [nI_toInt ha, nw_m1T] at this
  omega
theorem nw_ltm {a : Nat} (ha : a < 2 ^ 31) : (nI a < -nI 1) = False := by
  refine eq_false fun h => ?_
  have := Int32.lt_iff_toInt_lt.mp h
  rw [nI_toInt ha, nw_m1T] at this
  omega
theorem nw_mlt {a : Nat} (ha : a < 2 ^ 31) : (-nI 1 < nI a) = True := by
  refine eq_true (Int32.lt_iff_toInt_lt.mpr ?_)
  rw [nI_toInt ha, nw_m1T]
  omega
theorem nw_mle {a : Nat} (ha : a < 2 ^ 31) : (-nI 1 ≤ nI a) = True := by
  refine eq_true (Int32.le_iff_toInt_le.mpr ?_)
  rw [nI_toInt ha, nw_m1T]
  omega
theorem nw_lem {a : Nat} (ha : a < 2 ^ 31) : (nI a ≤ -nI 1) = False := by
  refine eq_false fun h => ?_
  have := Int32.le_iff_toInt_le.mp h
  rw [nI_toInt ha, nw_m1T] at this
  omega
theorem nw_max {a b : Nat} (ha : a < 2 ^ 31) (hb : b < 2 ^ 31) : mj_max (nI a) (nI b) = nI (max a b) := by
  unfold mj_max
  simp only [nw_lt ha hb]
  split
  · rw [Nat.max_eq_right (by omega)]
  · rw [Nat.max_eq_left (by omega)]
theorem nw_min {a b : Nat} (ha : a < 2 ^ 31) (hb : b < 2 ^ 31) : mj_min (nI a) (nI b) = nI (min a b) := by
  unfold mj_min
  simp only [nw_lt hb ha]
  split
  · rw [Nat.min_eq_right (by omega)]
  · rw [Nat.min_eq_left (by omega)]
def nw_d (a b : Nat) : Nat := (a - b) + (b - a)
theorem nw_abs {a b : Nat} (ha : a < 2 ^ 30) (hb : b < 2 ^ 30) : mj_abs (nI a - nI b) = nI (nw_d a b) := by
  unfold mj_abs nw_d
  by_cases h : b ≤ a
  · rw [pk_sub h, if_pos (nI_pos' (by omega)), show b - a = 0 by omega, Nat.add_zero]
  · have h1 := pk_sneg (a := a) (b := b) hb (by omega)
    rw [if_neg, show a - b = 0 by omega, Nat.zero_add, ← pk_sub (by omega : a ≤ b)]
    · apply Int32.toBitVec_inj.mp
      simp only [Int32.toBitVec_sub]
      show (0#32) - _ = _
      rw [BitVec.zero_sub, BitVec.neg_sub, BitVec.sub_eq_add_neg, BitVec.add_comm]
    · intro h2
      have h3 := Int32.lt_iff_toInt_lt.mp h1
      have h4 := Int32.le_iff_toInt_le.mp h2
      omega
theorem nw_and1 (y : Int32) : y &&& nI 1 = nI 0 ∨ y &&& nI 1 = nI 1 := by
  obtain ⟨j, hj, h⟩ := pk_andE y (m := nI 1) 1 (by decide +kernel)
  have : j = 0 ∨ j = 1 := by omega
  rcases this with rfl | rfl
  · exact Or.inl h
  · exact Or.inr h
/-- bits of a small number -/
def nw_b (o t : Nat) : Nat := o / 2 ^ t % 2
theorem nw_b2 (o t : Nat) : nw_b o t < 2 := Nat.mod_lt _ (by omega)
theorem nw_sl : ∀ t, t < 32 → ((nI t &&& nI 31).toBitVec.smod 32).toNat = t := by decide +kernel
theorem nw_bit {o t : Nat} (ho : o < 2 ^ 31) (ht : t < 32) : (nI o >>> (nI t &&& nI 31)) &&& nI 1 = nI (nw_b o t) := by
  rw [pk_shrN ho _ t (nw_sl t ht), pk_andN (by have := Nat.div_le_self o (2 ^ t); omega) 1 (by decide +kernel)]
  rfl
theorem nw_shl {t : Nat} (ht : t < 31) : nI 1 <<< (nI t &&& nI 31) = nI (2 ^ t) := by
  have : 2 ^ t < 2 ^ 32 := Nat.pow_lt_pow_right (by omega) (by omega)
  rw [pk_shlN _ t (nw_sl t (by omega)) (by omega), Nat.one_mul]
theorem nw_or (a b : Nat) : nI a ||| nI b = nI (a ||| b) := by
  apply Int32.toBitVec_inj.mp
  show BitVec.ofNat 32 a ||| BitVec.ofNat 32 b = BitVec.ofNat 32 (a ||| b)
  rw [BitVec.ofNat_or]
theorem nw_u9 (M : mj_M) {c c' k : Nat} {v : Int32} (h : c' ≠ c) : mj_u M c k v c' = M c' := mj_u_ne M c' h
theorem nw_a9 (M : mj_M) {c c' : Nat} {f : Nat → Int32} (h : c' ≠ c) : mj_a M c f c' = M c' := if_neg h
theorem nw_ae (M : mj_M) {c : Nat} {f : Nat → Int32} : mj_a M c f c = f := if_pos rfl
/-- whole numbers, with a sign -/
def iI (a : Int) : Int32 := Int32.ofInt a
theorem iI_n (n : Nat) : nI n = iI n := (Int32.ofInt_eq_ofNat).symm
theorem iI_T {a : Int} (h : -2 ^ 31 ≤ a) (h' : a < 2 ^ 31) : (iI a).toInt = a := Int32.toInt_ofInt_of_le h h'
theorem iI_add (a b : Int) : iI a + iI b = iI (a + b) := (Int32.ofInt_add ..).symm
theorem iI_sub (a b : Int) : iI a - iI b = iI (a - b) := (Int32.ofInt_sub ..).symm
theorem iI_le {a b : Int} (h : -2 ^ 31 ≤ a) (h' : a < 2 ^ 31) (k : -2 ^ 31 ≤ b) (k' : b < 2 ^ 31) : (iI a ≤ iI b) = (a ≤ b) := by
  rw [eq_iff_iff, Int32.le_iff_toInt_le, iI_T h h', iI_T k k']
theorem iI_lt {a b : Int} (h : -2 ^ 31 ≤ a) (h' : a < 2 ^ 31) (k : -2 ^ 31 ≤ b) (k' : b < 2 ^ 31) : (iI a < iI b) = (a < b) := by
  rw [eq_iff_iff, Int32.lt_iff_toInt_lt, iI_T h h', iI_T k k']
theorem iI_eq {a b : Int} (h : -2 ^ 31 ≤ a) (h' : a < 2 ^ 31) (k : -2 ^ 31 ≤ b) (k' : b < 2 ^ 31) : (iI a = iI b) = (a = b) := by
  refine propext ⟨fun e => ?_, fun e => by rw [e]⟩
  have := congrArg Int32.toInt e
  rwa [iI_T h h', iI_T k k'] at this
