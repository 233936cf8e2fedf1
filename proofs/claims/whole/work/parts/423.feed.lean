/-! ===== the pure side: feed ===== -/
theorem nw_iT (x : Int32) : x.toInt = (x.toBitVec.toNat : Int) ∨ x.toInt = (x.toBitVec.toNat : Int) - 2 ^ 32 := by
  have h : x.toInt = x.toBitVec.toInt := rfl
  rw [h, BitVec.toInt_eq_toNat_cond]
  split
  · exact Or.inl rfl
  · exact Or.inr rfl
/-- a word's bytes -/
def mk_b4 (w : Int32) (i : Nat) : Nat := w.toBitVec.toNat / 2 ^ (24 - 8 * i) % 256
theorem mk_b4_lt (w : Int32) (i : Nat) : mk_b4 w i < 256 := Nat.mod_lt _ (by omega)
theorem mk_us8 (w : Int32) {i : Nat} (hi : i < 4) : (mj_us w (nI (24 - 8 * i))) &&& nI 255 = nI (mk_b4 w i) := by
  rw [pk_and _ 8 (by decide +kernel)]
  unfold mj_us mk_b4
  rw [pk_ushr w (nI (24 - 8 * i)) (24 - 8 * i) (by have : ∀ j, j < 32 → (((nI j).toUInt32 &&& Int32.toUInt32 31).toBitVec % 32).toNat = j := by decide +kernel
                                                   exact this _ (by omega))]
theorem mk_shr8 (w : Int32) {i : Nat} (hi : i < 4) : (w >>> (nI (24 - 8 * i) &&& nI 31)) &&& nI 255 = nI (mk_b4 w i) := by
  rw [pk_and _ 8 (by decide +kernel)]
  congr 1
  unfold mk_b4
  have h1 := pk_shr w (nI (24 - 8 * i) &&& nI 31) (24 - 8 * i) (nw_sl _ (by omega))
  rw [Int.shiftRight_eq_div_pow] at h1
  have h2 := nw_iT w
  have h3 := nw_iT (w >>> (nI (24 - 8 * i) &&& nI 31))
  have h4 : i = 0 ∨ i = 1 ∨ i = 2 ∨ i = 3 := by omega
  generalize (w >>> (nI (24 - 8 * i) &&& nI 31)) = v at *
  have b1 := w.toBitVec.isLt
  have b2 := v.toBitVec.isLt
  generalize w.toBitVec.toNat = a at *
  generalize v.toBitVec.toNat = b at *
  generalize w.toInt = c at *
  generalize v.toInt = d at *
  rcases h4 with rfl | rfl | rfl | rfl
  · simp only [Nat.mul_zero, Nat.sub_zero] at h1 ⊢
    omega
  · simp only [Nat.mul_one] at h1 ⊢
    omega
  · omega
  · omega
/-- a byte more on the tape -/
def mk_ad (S : mk_S) (b : Nat) : mk_S := if b = 0 then S else mk_u (mk_u S 49 (S 48 2) b) 48 2 (S 48 2 + 1)
def mk_aw (S : mk_S) (w : Int32) : mk_S := mk_fo (fun i S => mk_ad S (mk_b4 w i)) 4 0 S
def mk_nz (b : Nat) : Nat := if b = 0 then 0 else 1
def mk_cw (w : Int32) : Nat := mk_nz (mk_b4 w 0) + mk_nz (mk_b4 w 1) + mk_nz (mk_b4 w 2) + mk_nz (mk_b4 w 3)
section Feed
variable {N : Nat} {S : mk_S} {A : mk_L} {M : mj_M}
theorem mk_ad_s (b : Nat) : mk_ad S b 48 2 = S 48 2 + mk_nz b := by
  unfold mk_ad mk_nz
  split
  · rfl
  · rw [mk_u_eq, mj_up_eq]
theorem mk_Wad (hw : mk_W S A) {b : Nat} (hb : b < 256) (h : S 48 2 + mk_nz b ≤ 240) : mk_W (mk_ad S b) A := by
  unfold mk_ad
  unfold mk_nz at h
  by_cases c : b = 0
  · rw [if_pos c]; exact hw
  · rw [if_neg c] at h ⊢
    unfold mk_W
    simp (disch := omega) only [mk_un1, mk_u_eq, mj_up_eq, mj_up_ne]
    refine ⟨hw.h6, hw.t6, hw.ht, by omega, fun k hk => ?_, hw.laws, hw.hold, hw.why, hw.kept, hw.sights, hw.img, hw.next, hw.often, hw.house, hw.tale, hw.now, hw.rows, hw.kh, hw.image, hw.seen, hw.wl, hw.chain⟩
    by_cases e : k = S 48 2
    · rw [e, mj_up_eq]; omega
    · rw [mj_up_ne _ _ _ e]; exact hw.byte k (by omega)
theorem mk_Xad (hX : mk_X S A M) {b : Nat} (hb : ¬ b = 0) : mk_X (mk_ad S b) A (mj_u (mj_u M 3 (S 48 2) (nI b)) 2 1 (nI (S 48 2 + 1))) := by
  unfold mk_ad
  rw [if_neg hb]
  unfold mk_X
  simp (disch := omega) only [nw_u9, mj_u_eq, mj_up_eq, mj_up_ne, nw_a9, nw_ae, mk_un1, mk_u_eq]
  refine ⟨hX.why, hX.ref, trivial, fun k hk => ?_, hX.laws, hX.hold, hX.lens, hX.codes, hX.hs, hX.ts, hX.often, hX.known, hX.cur, hX.warm, hX.len, hX.kn, hX.tru, hX.now, hX.ring, hX.kept, hX.img, hX.next, hX.rows, hX.image, hX.sights, hX.sh, hX.sb, hX.si⟩
  by_cases e : k = S 48 2
  · rw [e, mj_up_eq, mj_up_eq]
  · rw [mj_up_ne _ _ _ e, mj_up_ne _ _ _ e]; exact hX.tape k (by omega)
theorem mk_Mad (hM : mk_M S A M) {b : Nat} (hb : ¬ b = 0) : mk_M (mk_ad S b) A (mj_u (mj_u M 49 (S 48 2) (nI b)) 48 2 (nI (S 48 2 + 1))) := by
  unfold mk_ad
  rw [if_neg hb]
  unfold mk_M
  simp (disch := omega) only [nw_u9, mj_u_eq, mj_up_eq, mj_up_ne, nw_a9, nw_ae, mk_un1, mk_u_eq]
  refine ⟨trivial, hM.laws, hM.hs, hM.ts, hM.hold, hM.why, hM.kept, hM.sights, hM.img, fun k hk => ?_, hM.lens, fun n hn => mk_cl_cg (by rw [nw_u9 _ (by omega), nw_u9 _ (by omega)]) (by rw [nw_u9 _ (by omega), nw_u9 _ (by omega)]) (by rw [nw_u9 _ (by omega), nw_u9 _ (by omega)]) (by rw [nw_u9 _ (by omega), nw_u9 _ (by omega)]) (by rw [nw_u9 _ (by omega), nw_u9 _ (by omega)]) _ _ _ (hM.codes n hn), hM.often, hM.house, hM.tale, hM.now, hM.ref, hM.rows, hM.sh, hM.sb, hM.si, hM.image⟩
  by_cases e : k = S 48 2
  · rw [e, mj_up_eq, mj_up_eq]
  · rw [mj_up_ne _ _ _ e, mj_up_ne _ _ _ e]; exact hM.tape k (by omega)
theorem mk_Xsigns (hN : 100 ≤ N) (w : Int32) : F_Tape_signsOf N w M = some (nI (mk_cw w), M) := by
  have key : ∀ i n s, i < 4 → F_Tape_signsOf_b5 N (n + 1) w (nI s) (nI (24 - 8 * i)) M = F_Tape_signsOf_b5 N n w (nI (s + mk_nz (mk_b4 w i))) (nI (24 - 8 * i) + -8) M := by
    intro i n s hi
    have hb := mk_b4_lt w i
    rw [F_Tape_signsOf_b5, if_neg (nI_pos (by omega)), nl_255, mk_us8 w hi]
    unfold mk_nz
    simp (disch := omega) only [nl_0, nw_eq]
    split
    · rfl
    · rw [nI_1]
  unfold F_Tape_signsOf
  obtain ⟨n, rfl⟩ : ∃ n, N = n + 1 + 1 + 1 + 1 + 1 := ⟨N - 5, by omega⟩
  rw [show F_Tape_signsOf_b5 (n + 1 + 1 + 1 + 1 + 1) (n + 1 + 1 + 1 + 1 + 1) w 0 24 M = F_Tape_signsOf_b5 (n + 1 + 1 + 1 + 1 + 1) (n + 1 + 1 + 1 + 1 + 1) w (nI 0) (nI (24 - 8 * 0)) M from rfl, key 0 _ _ (by omega), show nI (24 - 8 * 0) + -8 = nI (24 - 8 * 1) by decide +kernel, key 1 _ _ (by omega), show nI (24 - 8 * 1) + -8 = nI (24 - 8 * 2) by decide +kernel, key 2 _ _ (by omega), show nI (24 - 8 * 2) + -8 = nI (24 - 8 * 3) by decide +kernel, key 3 _ _ (by omega), F_Tape_signsOf_b5, if_pos (by decide +kernel)]
  unfold mk_cw
  rw [Nat.zero_add]
theorem mk_Xaddw (hN : 100 ≤ N) (hX : mk_X S A M) (w : Int32) (h : S 48 2 + mk_cw w ≤ 240) : ∃ M', F_Tape_add N w M = some M' ∧ mk_X (mk_aw S w) A M' ∧ mk_fx M M' ∧ mk_aw S w 48 2 = S 48 2 + mk_cw w := by
  have key : ∀ (S : mk_S) (M : mj_M) i n, i < 4 → mk_X S A M → S 48 2 + mk_nz (mk_b4 w i) ≤ 240 → ∃ M', F_Tape_add_b3 N (n + 1) w (nI (24 - 8 * i)) M = F_Tape_add_b3 N n w (nI (24 - 8 * i) + -8) M' ∧ mk_X (mk_ad S (mk_b4 w i)) A M' ∧ mk_fx M M' := by
    intro S M i n hi hX h
    have hb := mk_b4_lt w i
    rw [F_Tape_add_b3, if_neg (nI_pos (by omega)), nl_255, mk_us8 w hi]
    simp only [mj_lt]
    by_cases c : mk_b4 w i = 0
    · rw [c, if_pos (show nI 0 = (0 : Int32) from rfl)]
      refine ⟨M, rfl, ?_, mk_fx.rf⟩
      unfold mk_ad
      rw [if_pos rfl]
      exact hX
    · unfold mk_nz at h
      rw [if_neg c] at h
      rw [if_neg (show ¬ nI (mk_b4 w i) = (0 : Int32) from nI_ne0 (by omega) (by omega)), hX.size, nl_240, if_neg (nI_ge (by omega) (by omega)), nw_ck (by omega) (by omega), nI_clamp (by omega), nw_u9 _ (by omega), hX.size, nI_1]
      exact ⟨_, rfl, mk_Xad hX c, (mk_fx.rf.u (by omega)).u (by omega)⟩
  unfold mk_cw at h
  unfold F_Tape_add
  obtain ⟨n, hn⟩ : ∃ n, N = n + 1 + 1 + 1 + 1 + 1 := ⟨N - 5, by omega⟩
  have s0 := mk_ad_s (S := S) (mk_b4 w 0)
  have s1 := mk_ad_s (S := mk_ad S (mk_b4 w 0)) (mk_b4 w 1)
  have s2 := mk_ad_s (S := mk_ad (mk_ad S (mk_b4 w 0)) (mk_b4 w 1)) (mk_b4 w 2)
  have s3 := mk_ad_s (S := mk_ad (mk_ad (mk_ad S (mk_b4 w 0)) (mk_b4 w 1)) (mk_b4 w 2)) (mk_b4 w 3)
  obtain ⟨M1, e1, x1, f1⟩ := key S M 0 (n + 1 + 1 + 1 + 1) (by omega) hX (by omega)
  obtain ⟨M2, e2, x2, f2⟩ := key _ M1 1 (n + 1 + 1 + 1) (by omega) x1 (by omega)
  obtain ⟨M3, e3, x3, f3⟩ := key _ M2 2 (n + 1 + 1) (by omega) x2 (by omega)
  obtain ⟨M4, e4, x4, f4⟩ := key _ M3 3 (n + 1) (by omega) x3 (by omega)
  refine ⟨M4, ?_, x4, ((f1.tr f2).tr f3).tr f4, ?_⟩
  · have e0 : F_Tape_add_b3 N N w 24 M = F_Tape_add_b3 N (n + 1 + 1 + 1 + 1 + 1) w (nI (24 - 8 * 0)) M := by rw [← hn]; rfl
    rw [e0, e1, show nI (24 - 8 * 0) + -8 = nI (24 - 8 * 1) by decide +kernel, e2, show nI (24 - 8 * 1) + -8 = nI (24 - 8 * 2) by decide +kernel, e3, show nI (24 - 8 * 2) + -8 = nI (24 - 8 * 3) by decide +kernel, e4, F_Tape_add_b3, if_pos (by decide +kernel)]
  · unfold mk_cw
    show mk_ad (mk_ad (mk_ad (mk_ad S (mk_b4 w 0)) (mk_b4 w 1)) (mk_b4 w 2)) (mk_b4 w 3) 48 2 = _
    omega
theorem mk_Waw (hw : mk_W S A) (w : Int32) (h : S 48 2 + mk_cw w ≤ 240) : mk_W (mk_aw S w) A := by
  unfold mk_cw at h
  have s0 := mk_ad_s (S := S) (mk_b4 w 0)
  have s1 := mk_ad_s (S := mk_ad S (mk_b4 w 0)) (mk_b4 w 1)
  have s2 := mk_ad_s (S := mk_ad (mk_ad S (mk_b4 w 0)) (mk_b4 w 1)) (mk_b4 w 2)
  show mk_W (mk_ad (mk_ad (mk_ad (mk_ad S (mk_b4 w 0)) (mk_b4 w 1)) (mk_b4 w 2)) (mk_b4 w 3)) A
  exact mk_Wad (mk_Wad (mk_Wad (mk_Wad hw (mk_b4_lt ..) (by omega)) (mk_b4_lt ..) (by omega)) (mk_b4_lt ..) (by omega)) (mk_b4_lt ..) (by omega)
/-- byte k of five words -/
def mk_B (a b c d e : Int32) (k : Nat) : Nat := if k < 4 then mk_b4 a k else if k < 8 then mk_b4 b (k - 4) else if k < 12 then mk_b4 c (k - 8) else if k < 16 then mk_b4 d (k - 12) else mk_b4 e (k - 16)
theorem mk_Mbyte (a b c d e : Int32) {k : Nat} (hk : k < 20) : F_M_byteOf a b c d e (nI k) M = some (nI (mk_B a b c d e k), M) := by
  have e45 : ∀ (w : Int32) (j : Nat), j < 4 → k % 4 = j → F_M_byteOf_b45 (nI k) w M = some (nI (mk_b4 w j), M) := by
    intro w j hj hkj
    unfold F_M_byteOf_b45
    rw [nl_4, pk_rem (by omega) (by omega) (by omega), hkj, nl_8, pk_mul, nl_24, pk_sub (by omega), nl_31, nl_255, mk_shr8 w hj]
  unfold F_M_byteOf mk_B
  rw [nl_4, nl_8, nl_12, show (16 : Int32) = nI 16 from rfl]
  simp (disch := omega) only [nw_le]
  by_cases c1 : k < 4
  · rw [if_neg (by omega), if_pos c1]; exact e45 a k (by omega) (by omega)
  · rw [if_pos (by omega), if_neg c1]
    by_cases c2 : k < 8
    · rw [if_neg (by omega), if_pos c2]; exact e45 b (k - 4) (by omega) (by omega)
    · rw [if_pos (by omega), if_neg c2]
      by_cases c3 : k < 12
      · rw [if_neg (by omega), if_pos c3]; exact e45 c (k - 8) (by omega) (by omega)
      · rw [if_pos (by omega), if_neg c3]
        by_cases c4 : k < 16
        · rw [if_neg (by omega), if_pos c4]; exact e45 d (k - 12) (by omega) (by omega)
        · rw [if_pos (by omega), if_neg c4]; exact e45 e (k - 16) (by omega) (by omega)
theorem mk_B_lt (a b c d e : Int32) (k : Nat) : mk_B a b c d e k < 256 := by
  unfold mk_B
  repeat' split
  all_goals exact mk_b4_lt ..
/-- nonzero bytes ahead of k -/
def mk_cB (a b c d e : Int32) : Nat → Nat
  | 0 => 0
  | k + 1 => mk_cB a b c d e k + mk_nz (mk_B a b c d e k)
theorem mk_cB20 (a b c d e : Int32) : mk_cB a b c d e 20 = mk_cw a + mk_cw b + mk_cw c + mk_cw d + mk_cw e := by
  simp only [mk_cB, mk_B, mk_cw]
  simp only [Nat.reduceLT, Nat.reduceSub, reduceIte, Nat.zero_add, Nat.lt_irrefl, if_true, if_false]
  omega
theorem mk_cB_mono (a b c d e : Int32) : ∀ i j, i ≤ j → mk_cB a b c d e i ≤ mk_cB a b c d e j := by
  intro i j h
  induction j with
  | zero => rw [show i = 0 by omega]; exact Nat.le_refl _
  | succ j ih =>
    by_cases c : i = j + 1
    · rw [c]; exact Nat.le_refl _
    · have := ih (by omega)
      rw [mk_cB]
      omega
theorem mk_nz1 {b : Nat} : mk_nz b = 0 ∨ mk_nz b = 1 := by unfold mk_nz; split; exact Or.inl rfl; exact Or.inr rfl
theorem mk_MfeedC (hN : 100 ≤ N) (hw : mk_W S A) (hM : mk_M S A M) (a b c d e : Int32) : F_M_feed N a b c d e M = if S 48 2 + mk_cB a b c d e 20 ≤ 240 then F_M_feed_b62 N N a b c d e 0 M else some (-1, M) := by
  have hs := hw.size
  have h20 : ∀ k, k ≤ 20 → mk_cB a b c d e k ≤ k := fun k => by
    induction k with
    | zero => intro _; exact Nat.le_refl _
    | succ k ih =>
      intro hk
      have := ih (by omega)
      have := mk_nz1 (b := mk_B a b c d e k)
      rw [mk_cB]
      omega
  obtain ⟨M', p, q⟩ := mk_lp (L := fun n (_ : Unit) i M => F_M_feed_b6 N n a b c d e (nI (mk_cB a b c d e i)) (nI i) M) 20 (fun _ s => s) (fun _ _ M1 => M1 = M) (fun _ M => if S 48 2 + mk_cB a b c d e 20 ≤ 240 then F_M_feed_b62 N N a b c d e 0 M else some (-1, M))
    (fun n s M1 p => by
      have := h20 20 (by omega)
      rw [p, F_M_feed_b6, nl_20, if_pos (Int32.le_refl _), hM.size, nI_add, nl_240]
      simp (disch := omega) only [nw_le])
    (fun n s i M1 hi p => by
      have hb := mk_B_lt a b c d e i
      refine ⟨M1, p, ?_⟩
      rw [F_M_feed_b6, nl_20, if_neg (nI_ge hi (by omega)), mk_Mbyte a b c d e hi]
      simp only [mk_bs, mj_lt]
      rw [nI_1, nI_1, mk_cB]
      unfold mk_nz
      simp (disch := omega) only [nl_0, nw_eq, nI_add]
      split <;> rfl)
    20 0 N () M (by omega) (by omega) rfl
  rw [p] at q
  exact q
theorem mk_MfeedA (hN : 100 ≤ N) (hw : mk_W S A) (hM : mk_M S A M) (a b c d e : Int32) (h : S 48 2 + mk_cB a b c d e 20 ≤ 240) : ∃ M', F_M_feed_b62 N N a b c d e 0 M = some (nI (S 48 2 + mk_cB a b c d e 20), M') ∧ mk_M (mk_fo (fun k S => mk_ad S (mk_B a b c d e k)) 20 0 S) A M' ∧ mk_fm M M' := by
  obtain ⟨M', p, q⟩ := mk_lp (L := fun n (_ : mk_S) i M => F_M_feed_b62 N n a b c d e (nI i) M) 20 (fun k S => mk_ad S (mk_B a b c d e k)) (fun i S1 M1 => mk_M S1 A M1 ∧ mk_fm M M1 ∧ S1 48 2 = S 48 2 + mk_cB a b c d e i) (fun S1 M1 => some (nI (S1 48 2), M1))
    (fun n s M1 p => by rw [F_M_feed_b62, nl_20, if_pos (Int32.le_refl _), p.1.size])
    (fun n s i M1 hi p => by
      obtain ⟨x1, f1, s1⟩ := p
      have hb := mk_B_lt a b c d e i
      have hm := mk_cB_mono a b c d e (i + 1) 20 (by omega)
      rw [mk_cB] at hm
      rw [F_M_feed_b62, nl_20, if_neg (nI_ge hi (by omega)), mk_Mbyte a b c d e hi]
      simp only [mk_bs, mj_lt]
      rw [nI_1]
      have hs2 := mk_ad_s (S := s) (mk_B a b c d e i)
      by_cases c0 : mk_B a b c d e i = 0
      · rw [c0, if_pos (show nI 0 = (0 : Int32) from rfl)]
        rw [c0] at hs2
        refine ⟨M1, ⟨?_, f1, ?_⟩, rfl⟩
        · unfold mk_ad
          rw [if_pos rfl]
          exact x1
        · rw [hs2, s1, mk_cB, c0]
          omega
      · have n1 : mk_nz (mk_B a b c d e i) = 1 := if_neg c0
        rw [if_neg (show ¬ nI (mk_B a b c d e i) = (0 : Int32) from nI_ne0 (by omega) (by omega)), x1.size, nw_ck (by omega) (by omega), nI_clamp (by omega), nw_u9 _ (by omega), x1.size, nI_1]
        refine ⟨_, ⟨mk_Mad x1 c0, (f1.u (by omega)).u (by omega), ?_⟩, rfl⟩
        rw [hs2, s1, mk_cB]
        omega)
    20 0 N S M (by omega) (by omega) ⟨hM, mk_fm.rf, rfl⟩
  refine ⟨M', ?_, p.1, p.2.1⟩
  rw [← p.2.2]
  exact q
end Feed
theorem op_0 {N : Nat} (hN : 100 ≤ N) : mo_0 N mk_I := by
  intro M ⟨S, A, hw, hX, hM⟩ a b c d e
  have hs := hw.size
  have hc4 : ∀ w, mk_cw w ≤ 4 := fun w => by
    have := mk_nz1 (b := mk_b4 w 0)
    have := mk_nz1 (b := mk_b4 w 1)
    have := mk_nz1 (b := mk_b4 w 2)
    have := mk_nz1 (b := mk_b4 w 3)
    unfold mk_cw
    omega
  have ha := hc4 a
  have hb := hc4 b
  have hc := hc4 c
  have hd := hc4 d
  have he := hc4 e
  have h20 := mk_cB20 a b c d e
  have ex : ∀ M, mk_X S A M → F_W_feed N a b c d e M = if S 48 2 + mk_cB a b c d e 20 ≤ 240 then (F_Tape_add N a M).bind (fun q8 => (F_Tape_add N b q8).bind (fun q9 => (F_Tape_add N c q9).bind (fun q10 => (F_Tape_add N d q10).bind (fun q11 => (F_Tape_add N e q11).bind (fun q12 => some (q12 2 1, q12)))))) else some (-1, M) := by
    intro M hX
    unfold F_W_feed
    rw [mk_Xsigns hN]
    simp only [mk_bs]
    rw [mk_Xsigns hN]
    simp only [mk_bs]
    rw [mk_Xsigns hN]
    simp only [mk_bs]
    rw [mk_Xsigns hN]
    simp only [mk_bs]
    rw [mk_Xsigns hN]
    simp only [mk_bs, mj_lt]
    rw [hX.size, nI_add, nI_add, nI_add, nI_add, nI_add, nl_240, ← h20]
    simp (disch := omega) only [nw_le]
  by_cases c0 : S 48 2 + mk_cB a b c d e 20 ≤ 240
  · have w1 := mk_Waw hw a (by omega)
    have s1 : mk_aw S a 48 2 = S 48 2 + mk_cw a := (mk_Xaddw hN hX a (by omega)).choose_spec.2.2.2
    refine mk_fin (S' := mk_aw (mk_aw (mk_aw (mk_aw (mk_aw S a) b) c) d) e) (A' := A) (r := nI (S 48 2 + mk_cB a b c d e 20)) ?_ hX hM (fun M hX => ?_) (fun M hM => ?_)
    · have q : ∀ (S : mk_S) (w : Int32), S 48 2 + mk_cw w ≤ 240 → mk_aw S w 48 2 = S 48 2 + mk_cw w := by
        intro S w h
        unfold mk_cw at h ⊢
        have s0 := mk_ad_s (S := S) (mk_b4 w 0)
        have s1 := mk_ad_s (S := mk_ad S (mk_b4 w 0)) (mk_b4 w 1)
        have s2 := mk_ad_s (S := mk_ad (mk_ad S (mk_b4 w 0)) (mk_b4 w 1)) (mk_b4 w 2)
        have s3 := mk_ad_s (S := mk_ad (mk_ad (mk_ad S (mk_b4 w 0)) (mk_b4 w 1)) (mk_b4 w 2)) (mk_b4 w 3)
        show mk_ad (mk_ad (mk_ad (mk_ad S (mk_b4 w 0)) (mk_b4 w 1)) (mk_b4 w 2)) (mk_b4 w 3) 48 2 = _
        omega
      have q1 := q S a (by omega)
      have q2 := q (mk_aw S a) b (by omega)
      have q3 := q (mk_aw (mk_aw S a) b) c (by omega)
      have q4 := q (mk_aw (mk_aw (mk_aw S a) b) c) d (by omega)
      exact mk_Waw (mk_Waw (mk_Waw (mk_Waw w1 b (by omega)) c (by omega)) d (by omega)) e (by omega)
    · rw [ex M hX, if_pos c0]
      obtain ⟨M1, e1, x1, f1, s1⟩ := mk_Xaddw hN hX a (by omega)
      obtain ⟨M2, e2, x2, f2, s2⟩ := mk_Xaddw hN x1 b (by omega)
      obtain ⟨M3, e3, x3, f3, s3⟩ := mk_Xaddw hN x2 c (by omega)
      obtain ⟨M4, e4, x4, f4, s4⟩ := mk_Xaddw hN x3 d (by omega)
      obtain ⟨M5, e5, x5, f5, s5⟩ := mk_Xaddw hN x4 e (by omega)
      rw [e1]
      simp only [mk_bs]
      rw [e2]
      simp only [mk_bs]
      rw [e3]
      simp only [mk_bs]
      rw [e4]
      simp only [mk_bs]
      rw [e5]
      simp only [mk_bs]
      refine ⟨M5, ?_, x5, (((f1.tr f2).tr f3).tr f4).tr f5⟩
      rw [x5.size, show mk_aw (mk_aw (mk_aw (mk_aw (mk_aw S a) b) c) d) e 48 2 = S 48 2 + mk_cB a b c d e 20 by omega]
    · rw [mk_MfeedC hN hw hM, if_pos c0]
      obtain ⟨M1, e1, x1, f1⟩ := mk_MfeedA hN hw hM a b c d e c0
      exact ⟨M1, e1, x1, f1⟩
  · refine mk_fin (r := -1) hw hX hM (mk_QX.same fun M hX => ?_) (mk_QM.same fun M hM => ?_)
    · rw [ex M hX, if_neg c0]
    · rw [mk_MfeedC hN hw hM, if_neg c0]
