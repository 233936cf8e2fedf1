/-! ===== the pure side: loops that end early; told, ask ===== -/
def mk_fe {σ ρ : Type} (g : Nat → σ → σ ⊕ ρ) : Nat → Nat → σ → σ ⊕ ρ
  | 0, _, s => .inl s
  | d + 1, i, s => match g i s with
    | .inl s' => mk_fe g d (i + 1) s'
    | .inr r => .inr r
theorem mk_lpe {σ ρ R : Type} (L : Nat → σ → Nat → mj_M → Option R) (b : Nat) (g : Nat → σ → σ ⊕ ρ) (P : Nat → σ → mj_M → Prop) (Q : mj_M → Prop) (ret : σ → mj_M → Option R) (out : ρ → mj_M → Option R) (h0 : ∀ n s M, P b s M → L (n + 1) s b M = ret s M) (h1 : ∀ n s i M, i < b → P i s M → ∃ M', (∃ s', g i s = .inl s' ∧ P (i + 1) s' M' ∧ L (n + 1) s i M = L n s' (i + 1) M') ∨ (∃ r, g i s = .inr r ∧ Q M' ∧ L (n + 1) s i M = out r M')) : ∀ d i n s M, i + d = b → d < n → P i s M → ∃ M', (∃ s', mk_fe g d i s = .inl s' ∧ P b s' M' ∧ L n s i M = ret s' M') ∨ (∃ r, mk_fe g d i s = .inr r ∧ Q M' ∧ L n s i M = out r M') := by
  intro d
  induction d with
  | zero =>
    intro i n s M hi hn hP
    obtain ⟨n, rfl⟩ : ∃ k, n = k + 1 := ⟨n - 1, by omega⟩
    have : i = b := by omega
    subst this
    exact ⟨M, Or.inl ⟨s, rfl, hP, h0 n s M hP⟩⟩
  | succ d ih =>
    intro i n s M hi hn hP
    obtain ⟨n, rfl⟩ : ∃ k, n = k + 1 := ⟨n - 1, by omega⟩
    obtain ⟨M1, ⟨s1, g1, p1, e1⟩ | ⟨r, g1, q1, e1⟩⟩ := h1 n s i M (by omega) hP
    · obtain ⟨M2, h2⟩ := ih (i + 1) n s1 M1 (by omega) (by omega) p1
      refine ⟨M2, ?_⟩
      rw [mk_fe, g1, e1]
      exact h2
    · refine ⟨M1, Or.inr ⟨r, ?_, q1, e1⟩⟩
      rw [mk_fe, g1]
theorem nw_bt (o t : Nat) : nw_b o t = if o.testBit t then 1 else 0 := by
  unfold nw_b
  rw [Nat.testBit_eq_decide_div_mod_eq]
  have := Nat.mod_lt (o / 2 ^ t) (show 0 < 2 by omega)
  by_cases c : o / 2 ^ t % 2 = 1
  · rw [if_pos (decide_eq_true c), c]
  · rw [if_neg (by simp [c])]; omega
theorem mk_bits_t (p : Nat → Bool) (t : Nat) : ∀ n, (mk_bits p n).testBit t = (decide (t < n) && p t)
  | 0 => by simp [mk_bits]
  | n + 1 => by
    have ih := mk_bits_t p t n
    rw [mk_bits]
    by_cases c : p n = true
    · rw [if_pos c, Nat.testBit_or, ih, Nat.testBit_two_pow]
      by_cases d : n = t
      · subst d
        simp [c]
      · have : decide (t < n) = decide (t < n + 1) := by simp only [decide_eq_decide]; omega
        rw [this]; simp [d]
    · rw [if_neg c, ih]
      by_cases d : n = t
      · subst d
        simp [c]
      · have : decide (t < n) = decide (t < n + 1) := by simp only [decide_eq_decide]; omega
        rw [this]
theorem mk_bits_b (p : Nat → Bool) (n t : Nat) : nw_b (mk_bits p n) t = if t < n ∧ p t = true then 1 else 0 := by
  rw [nw_bt, mk_bits_t]
  by_cases c : t < n <;> by_cases d : p t = true <;> simp [c, d]
section Told
variable {N : Nat} {S : mk_S} {A : mk_L}
/-- does a tale go with all that was seen -/
def mk_fg (S : mk_S) (A : mk_L) (t : Nat) : Nat → Unit → Unit ⊕ Unit := fun i _ => if (if mk_told S A (S 69 i) t < S 70 i then 0 else 1) = S 71 i then .inl () else .inr ()
def mk_fit (S : mk_S) (A : mk_L) (t : Nat) : Bool := match mk_fe (mk_fg S A t) (S 48 40) 0 () with | .inl _ => true | .inr _ => false
def mk_bi (b : Bool) : Nat := if b then 1 else 0
theorem mk_told20 (S : mk_S) (A : mk_L) (h t : Nat) : mk_told S A h t ≤ 20 := mk_by20 ..
theorem mk_Xfit (hN : 1000 ≤ N) (hw : mk_W S A) {M : mj_M} (hX : mk_X S A M) {t : Nat} (ht : t < S 48 26) : ∃ M', F_Guess_fits N (nI t) M = some (nI (mk_bi (mk_fit S A t)), M') ∧ mk_X S A M' ∧ mk_fx M M' := by
  have h10 := hw.sights
  obtain ⟨M', h⟩ := mk_lpe (L := fun n (_ : Unit) i M => F_Guess_fits_b2 N n (nI t) (nI i) M) (S 48 40) (mk_fg S A t) (fun _ _ M1 => mk_X S A M1 ∧ mk_fx M M1) (fun M1 => mk_X S A M1 ∧ mk_fx M M1) (fun _ M => some (nI 1, M)) (fun _ M => some (nI 0, M))
    (fun n s M1 p => by rw [F_Guess_fits_b2, p.1.sights, if_pos (Int32.le_refl _)]; rfl)
    (fun n s i M1 hi p => by
      obtain ⟨hX1, f1⟩ := p
      have hs := hw.seen i hi
      obtain ⟨M2, e2, f2⟩ := mk_Xtold hN hw hX1 hs.1 ht
      obtain ⟨x2, g2⟩ := hX1.q f2
      have h20 := mk_told20 S A (S 69 i) t
      refine ⟨M2, ?_⟩
      rw [F_Guess_fits_b2, hX1.sights, if_neg (nI_ge hi (by omega)), nw_ck (by omega) (by omega), nI_clamp (by omega), hX1.sh i hi, e2]
      simp only [Option.bind_some]
      rw [nw_ck (by omega) (by omega), x2.sb i hi]
      simp (disch := omega) only [nw_lt]
      have key : ∀ z, z ≤ 1 → F_Guess_fits_b38 N (F_Guess_fits_b2 N n) (nI t) (nI i) (nI z) M2 = if z = S 71 i then F_Guess_fits_b2 N n (nI t) (nI (i + 1)) M2 else some (nI 0, M2) := by
        intro z hz
        unfold F_Guess_fits_b38
        rw [nw_ck (by omega) (by omega), nI_clamp (by omega), x2.si i hi, nI_1]
        simp (disch := omega) only [nw_eq]
        rfl
      have e : (if mk_told S A (S 69 i) t < S 70 i then F_Guess_fits_b38 N (F_Guess_fits_b2 N n) (nI t) (nI i) 0 M2 else F_Guess_fits_b38 N (F_Guess_fits_b2 N n) (nI t) (nI i) 1 M2) = F_Guess_fits_b38 N (F_Guess_fits_b2 N n) (nI t) (nI i) (nI (if mk_told S A (S 69 i) t < S 70 i then 0 else 1)) M2 := by split <;> rfl
      rw [e, key _ (by split <;> omega)]
      unfold mk_fg
      by_cases c : (if mk_told S A (S 69 i) t < S 70 i then 0 else 1) = S 71 i
      · exact Or.inl ⟨(), by rw [if_pos c], ⟨x2, f1.tr g2⟩, by rw [if_pos c]⟩
      · exact Or.inr ⟨(), by rw [if_neg c], ⟨x2, f1.tr g2⟩, by rw [if_neg c]⟩)
    (S 48 40) 0 N () M (by omega) (by omega) ⟨hX, mk_fx.rf⟩
  refine ⟨M', ?_⟩
  unfold mk_fit
  rcases h with ⟨s, g, p, e⟩ | ⟨r, g, p, e⟩
  · rw [g]; exact ⟨e, p⟩
  · rw [g]; exact ⟨e, p⟩
theorem mk_Mtold (hN : 1000 ≤ N) (hw : mk_W S A) {M : mj_M} (hM : mk_M S A M) {h t : Nat} (hh : h < S 48 25) (ht : t < S 48 26) : ∃ M', F_M_toldNights N (nI h) (nI t) M = some (nI (mk_told S A h t), M') ∧ mk_M S A M' ∧ mk_fm M M' := by
  have t6 := hw.t6
  have hho := hw.house h hh
  have hta := hw.tale t ht
  have hb := nw_b2 (S 63 (3 * h)) t
  obtain ⟨M1, e1, f1⟩ := mk_Mby hN hw hM hh ht (show nw_b (S 63 (3 * h)) t ≤ 99 by omega) hta.2.2.1
  refine ⟨M1, ?_, hM.q f1⟩
  unfold F_M_toldNights
  rw [nl_1, nl_0, mk_ofTale hM hw ht (by omega)]
  simp only [Option.bind_some]
  rw [mk_ofHouse hM hw hh (by omega)]
  simp only [Option.bind_some]
  rw [nl_31, show 3 * h + 0 = 3 * h from rfl, nw_bit (by omega) (by omega), e1]
  rfl
theorem mk_Mfit (hN : 1000 ≤ N) (hw : mk_W S A) {M : mj_M} (hM : mk_M S A M) {t : Nat} (ht : t < S 48 26) : ∃ M', F_M_isTold N (nI t) M = some (nI (mk_bi (mk_fit S A t)), M') ∧ mk_M S A M' ∧ mk_fm M M' := by
  have h10 := hw.sights
  obtain ⟨M', h⟩ := mk_lpe (L := fun n (_ : Unit) i M => F_M_isTold_b2 N n (nI t) (nI i) M) (S 48 40) (mk_fg S A t) (fun _ _ M1 => mk_M S A M1 ∧ mk_fm M M1) (fun M1 => mk_M S A M1 ∧ mk_fm M M1) (fun _ M => some (nI 1, M)) (fun _ M => some (nI 0, M))
    (fun n s M1 p => by rw [F_M_isTold_b2, p.1.sights, if_pos (Int32.le_refl _)]; rfl)
    (fun n s i M1 hi p => by
      obtain ⟨hX1, f1⟩ := p
      have hs := hw.seen i hi
      obtain ⟨M2, e2, x2, g2⟩ := mk_Mtold hN hw hX1 hs.1 ht
      have h20 := mk_told20 S A (S 69 i) t
      refine ⟨M2, ?_⟩
      rw [F_M_isTold_b2, hX1.sights, if_neg (nI_ge hi (by omega)), nw_ck (by omega) (by omega), nI_clamp (by omega), hX1.sh i hi, e2]
      simp only [Option.bind_some]
      rw [nw_ck (by omega) (by omega), x2.sb i hi]
      simp (disch := omega) only [nw_lt]
      have key : ∀ z, z ≤ 1 → F_M_isTold_b35 N (F_M_isTold_b2 N n) (nI t) (nI i) (nI z) M2 = if z = S 71 i then F_M_isTold_b2 N n (nI t) (nI (i + 1)) M2 else some (nI 0, M2) := by
        intro z hz
        unfold F_M_isTold_b35
        rw [nw_ck (by omega) (by omega), nI_clamp (by omega), x2.si i hi, nI_1]
        simp (disch := omega) only [nw_eq]
        rfl
      have e : (if mk_told S A (S 69 i) t < S 70 i then F_M_isTold_b35 N (F_M_isTold_b2 N n) (nI t) (nI i) 0 M2 else F_M_isTold_b35 N (F_M_isTold_b2 N n) (nI t) (nI i) 1 M2) = F_M_isTold_b35 N (F_M_isTold_b2 N n) (nI t) (nI i) (nI (if mk_told S A (S 69 i) t < S 70 i then 0 else 1)) M2 := by split <;> rfl
      rw [e, key _ (by split <;> omega)]
      unfold mk_fg
      by_cases c : (if mk_told S A (S 69 i) t < S 70 i then 0 else 1) = S 71 i
      · exact Or.inl ⟨(), by rw [if_pos c], ⟨x2, f1.tr g2⟩, by rw [if_pos c]⟩
      · exact Or.inr ⟨(), by rw [if_neg c], ⟨x2, f1.tr g2⟩, by rw [if_neg c]⟩)
    (S 48 40) 0 N () M (by omega) (by omega) ⟨hM, mk_fm.rf⟩
  refine ⟨M', ?_⟩
  unfold mk_fit
  rcases h with ⟨s, g, p, e⟩ | ⟨r, g, p, e⟩
  · rw [g]; exact ⟨e, p⟩
  · rw [g]; exact ⟨e, p⟩
theorem mk_bi0 (b : Bool) : (nI (mk_bi b) = 0) = (b = false) := by
  cases b
  · exact propext ⟨fun _ => rfl, fun _ => rfl⟩
  · exact propext ⟨fun h => absurd h (by decide +kernel), fun h => by cases h⟩
theorem mk_Xfits (hN : 1000 ≤ N) (hw : mk_W S A) {M : mj_M} (hX : mk_X S A M) : ∃ M', F_Guess_fitting N M = some (nI (mk_bits (mk_fit S A) (S 48 26)), M') ∧ mk_X S A M' ∧ mk_fx M M' := by
  have t6 := hw.t6
  obtain ⟨M', p, q⟩ := mk_lp (L := fun n (_ : Unit) i M => F_Guess_fitting_b4 N n (nI (mk_bits (mk_fit S A) i)) (nI i) M) (S 48 26) (fun _ s => s) (fun _ _ M1 => mk_X S A M1 ∧ mk_fx M M1) (fun _ M => some (nI (mk_bits (mk_fit S A) (S 48 26)), M))
    (fun n s M1 p => by rw [F_Guess_fitting_b4, p.1.ts, if_pos (Int32.le_refl _)])
    (fun n s i M1 hi p => by
      obtain ⟨hX1, f1⟩ := p
      obtain ⟨M2, e2, x2, f2⟩ := mk_Xfit hN hw hX1 hi
      refine ⟨M2, ⟨x2, f1.tr f2⟩, ?_⟩
      rw [F_Guess_fitting_b4, hX1.ts, if_neg (nI_ge hi (by omega)), e2]
      simp only [Option.bind_some, mk_bi0, mj_lt]
      rw [nl_1, nl_31, nw_shl (by omega), nw_or, nI_add, mk_bits]
      cases mk_fit S A i <;> rfl)
    (S 48 26) 0 N () M (by omega) (by omega) ⟨hX, mk_fx.rf⟩
  exact ⟨M', q, p⟩
/-- the a-th of the tales that go -/
def mk_ng1 (p : Nat → Bool) (a : Int32) : Nat → Nat → Nat ⊕ Nat := fun t k => if p t then (if nI k = a then .inr t else .inl (k + 1)) else .inl k
theorem mk_fe_ext {σ ρ : Type} {g g' : Nat → σ → σ ⊕ ρ} : ∀ d i s, (∀ j, i ≤ j → j < i + d → g j = g' j) → mk_fe g d i s = mk_fe g' d i s := by
  intro d
  induction d with
  | zero => intro i s _; rfl
  | succ d ih =>
    intro i s h
    rw [mk_fe, mk_fe, h i (by omega) (by omega)]
    split
    · exact ih (i + 1) _ (fun j h1 h2 => h j (by omega) (by omega))
    · rfl
theorem mk_fe_tail {σ ρ : Type} {g : Nat → σ → σ ⊕ ρ} : ∀ d i s e, (∀ j s, i + d ≤ j → j < i + d + e → g j s = .inl s) → mk_fe g (d + e) i s = mk_fe g d i s := by
  intro d
  induction d with
  | zero =>
    intro i s e
    induction e generalizing i with
    | zero => intro _; rfl
    | succ e ih =>
      intro h
      have e1 : mk_fe g (e + 1) i s = mk_fe g e (i + 1) s := by rw [mk_fe, h i s (by omega) (by omega)]
      have := ih (i + 1) (fun j s h1 h2 => h j s (by omega) (by omega))
      rw [Nat.zero_add] at this
      rw [Nat.zero_add, e1, this]
      rfl
  | succ d ih =>
    intro i s e h
    rw [show d + 1 + e = d + e + 1 by omega, mk_fe, mk_fe]
    split
    · exact ih (i + 1) _ e (fun j s h1 h2 => h j s (by omega) (by omega))
    · rfl
def mk_no {σ : Type} : σ ⊕ Nat → Int32
  | .inl _ => -1
  | .inr t => nI t
theorem mk_XbitAt (hN : 1000 ≤ N) (hw : mk_W S A) (M : mj_M) (a : Int32) (p : Nat → Bool) : F_Guess_bitAt N (nI (mk_bits p (S 48 26))) a M = some (mk_no (mk_fe (mk_ng1 p a) (S 48 26) 0 0), M) := by
  have t6 := hw.t6
  have h64 := mk_bits64 p (S 48 26) t6
  have e9 : mk_fe (mk_ng1 p a) (S 48 26) 0 0 = mk_fe (mk_ng1 (fun t => decide (t < S 48 26) && p t) a) 6 0 0 := by
    have h1 := mk_fe_tail (g := mk_ng1 (fun t => decide (t < S 48 26) && p t) a) (S 48 26) 0 0 (6 - S 48 26) (fun j s h1 h2 => by
      unfold mk_ng1
      rw [if_neg (by simp; intro h; omega)])
    rw [show S 48 26 + (6 - S 48 26) = 6 by omega] at h1
    rw [h1]
    refine mk_fe_ext _ _ _ (fun j h1 h2 => ?_)
    unfold mk_ng1
    simp only [decide_eq_true (show j < S 48 26 by omega), Bool.true_and]
  obtain ⟨M', h⟩ := mk_lpe (L := fun n k i M => F_Guess_bitAt_b4 N n (nI (mk_bits p (S 48 26))) (a - nI k) (nI i) M) 6 (mk_ng1 (fun t => decide (t < S 48 26) && p t) a) (fun _ _ M1 => M1 = M) (fun M1 => M1 = M) (fun _ M => some (-1, M)) (fun t M => some (nI t, M))
    (fun n s M1 p => by rw [F_Guess_bitAt_b4, nl_6, if_pos (Int32.le_refl _)])
    (fun n k i M1 hi hM => by
      refine ⟨M1, ?_⟩
      rw [F_Guess_bitAt_b4, nl_6, if_neg (nI_ge hi (by omega)), nl_1, nl_31, nw_bit (by omega) (by omega), mk_bits_b, nI_add]
      unfold mk_ng1
      dsimp only
      by_cases c : i < S 48 26 ∧ p i = true
      · have hp : (decide (i < S 48 26) && p i) = true := by rw [decide_eq_true c.1, c.2]; rfl
        rw [if_pos c, if_neg (show ¬ nI 1 = (0 : Int32) by decide +kernel), if_pos hp]
        have e : (a - nI k = 0) = (nI k = a) := by
          refine propext ⟨fun h => ?_, fun h => by rw [h]; exact Int32.sub_self a⟩
          have h2 : a - nI k + nI k = 0 + nI k := by rw [h]
          rw [Int32.sub_add_cancel, Int32.zero_add] at h2
          exact h2.symm
        simp only [e]
        by_cases d : nI k = a
        · refine Or.inr ⟨i, by rw [if_pos d], hM, ?_⟩
          rw [if_pos d]
        · refine Or.inl ⟨k + 1, by rw [if_neg d], hM, ?_⟩
          rw [if_neg d, ← nI_add k 1, Int32.sub_eq_add_neg, Int32.sub_eq_add_neg, Int32.neg_add, Int32.add_assoc, Int32.sub_eq_add_neg]
      · have hp : ¬ (decide (i < S 48 26) && p i) = true := by
          intro h
          rw [Bool.and_eq_true, decide_eq_true_eq] at h
          exact c h
        refine Or.inl ⟨k, ?_, hM, ?_⟩
        · rw [if_neg hp]
        · rw [if_neg c, if_pos (show nI 0 = (0 : Int32) from rfl)])
    6 0 N 0 M (by omega) (by omega) rfl
  unfold F_Guess_bitAt
  rw [e9]
  have ea : a - nI 0 = a := Int32.sub_zero a
  rcases h with ⟨s, g, pp, e⟩ | ⟨r, g, pp, e⟩
  · subst pp
    rw [ea] at e
    rw [g]
    exact e
  · subst pp
    rw [ea] at e
    rw [g]
    exact e
end Told
section Told2
variable {N : Nat} {S : mk_S} {A : mk_L}
/-- how many of the first n -/
def mk_cn (p : Nat → Bool) : Nat → Nat
  | 0 => 0
  | n + 1 => mk_cn p n + mk_bi (p n)
def mk_pc (o : Nat) : Nat := nw_b o 0 + nw_b o 1 + nw_b o 2 + nw_b o 3 + nw_b o 4 + nw_b o 5
def mk_bcv (x0 : Int32) : Int32 :=
  mj_lt (x0 - ((mj_us x0 (1 : Int32)) &&& (1431655765 : Int32))) (fun v1 =>
     mj_lt ((v1 &&& (858993459 : Int32)) + ((mj_us v1 (2 : Int32)) &&& (858993459 : Int32))) (fun v2 =>
     mj_lt ((v2 + (mj_us v2 (4 : Int32))) &&& (252645135 : Int32)) (fun v3 =>
     mj_lt (v3 + (mj_us v3 (8 : Int32))) (fun v4 =>
     mj_lt (v4 + (mj_us v4 (16 : Int32))) (fun v5 => v5 &&& (63 : Int32))))))
theorem mk_bc0 (x : Int32) (M : mj_M) : F_Integer_bitCount x M = some (mk_bcv x, M) := rfl
theorem mk_bc64 : ∀ o, o < 64 → mk_bcv (nI o) = nI (mk_pc o) := by decide +kernel
theorem mk_bc {o : Nat} (h : o < 64) (M : mj_M) : F_Integer_bitCount (nI o) M = some (nI (mk_pc o), M) := by rw [mk_bc0, mk_bc64 o h]
theorem mk_pc6 (o : Nat) : mk_pc o ≤ 6 := by
  have := nw_b2 o 0
  have := nw_b2 o 1
  have := nw_b2 o 2
  have := nw_b2 o 3
  have := nw_b2 o 4
  have := nw_b2 o 5
  unfold mk_pc
  omega
theorem mk_cn_ext {p q : Nat → Bool} : ∀ n, (∀ t, t < n → p t = q t) → mk_cn p n = mk_cn q n
  | 0, _ => rfl
  | n + 1, h => by rw [mk_cn, mk_cn, h n (by omega), mk_cn_ext n (fun t ht => h t (by omega))]
theorem mk_cn_tail {p : Nat → Bool} (n : Nat) : ∀ d, (∀ t, n ≤ t → t < n + d → p t = false) → mk_cn p (n + d) = mk_cn p n
  | 0, _ => rfl
  | d + 1, h => by
    rw [← Nat.add_assoc, mk_cn, h (n + d) (by omega) (by omega), mk_cn_tail n d (fun t h1 h2 => h t h1 (by omega))]
    rfl
theorem mk_pc_bits (p : Nat → Bool) {n : Nat} (h : n ≤ 6) : mk_pc (mk_bits p n) = mk_cn p n := by
  have e1 : mk_cn p n = mk_cn (fun t => decide (t < n) && p t) 6 := by
    have h1 := mk_cn_tail (p := fun t => decide (t < n) && p t) n (6 - n) (fun t h1 h2 => by simp; intro h; omega)
    rw [show n + (6 - n) = 6 by omega] at h1
    rw [h1]
    exact mk_cn_ext n (fun t ht => by simp [ht])
  have e2 : ∀ t, nw_b (mk_bits p n) t = mk_bi (decide (t < n) && p t) := by
    intro t
    rw [mk_bits_b]
    unfold mk_bi
    by_cases c : t < n <;> by_cases d : p t = true <;> simp [c, d]
  rw [e1]
  unfold mk_pc
  rw [e2, e2, e2, e2, e2, e2]
  simp only [mk_cn, Nat.zero_add]
theorem mk_fe_m1 (p : Nat → Bool) {a : Int32} : ∀ d i k, k ≤ i → (∀ j, j < i + d → ¬ nI j = a) → ∃ k', mk_fe (mk_ng1 p a) d i k = .inl k' := by
  intro d
  induction d with
  | zero => intro i k _ _; exact ⟨k, rfl⟩
  | succ d ih =>
    intro i k hk h
    rw [mk_fe]
    unfold mk_ng1
    by_cases c : p i = true
    · rw [if_pos c, if_neg (h k (by omega))]
      exact ih (i + 1) (k + 1) (by omega) (fun j hj => h j (by omega))
    · rw [if_neg c]
      exact ih (i + 1) k (by omega) (fun j hj => h j (by omega))
theorem mk_fe_cn (p : Nat → Bool) {a : Int32} : ∀ d i, (∀ j, j < i + d → ¬ nI j = a) → mk_fe (mk_ng1 p a) d i (mk_cn p i) = .inl (mk_cn p (i + d)) := by
  intro d
  induction d with
  | zero => intro i _; rfl
  | succ d ih =>
    intro i h
    have hk : ∀ n, mk_cn p n ≤ n := fun n => by
      induction n with
      | zero => exact Nat.le_refl _
      | succ n ih => rw [mk_cn]; unfold mk_bi; split <;> omega
    have := hk i
    rw [mk_fe]
    have e := ih (i + 1) (fun j hj => h j (by omega))
    rw [show i + 1 + d = i + (d + 1) by omega, mk_cn] at e
    unfold mk_ng1
    by_cases c : p i = true
    · rw [if_pos c, if_neg (h _ (by omega))]
      rw [c] at e
      exact e
    · rw [if_neg c]
      have c' : p i = false := by cases h : p i <;> simp_all
      rw [c'] at e
      exact e
theorem mk_Mtolds (hN : 1000 ≤ N) (hw : mk_W S A) {M : mj_M} (hM : mk_M S A M) (a : Int32) : ∃ M', F_M_told_b18 N N a (nI 0) (nI 0) M = some (match mk_fe (mk_ng1 (mk_fit S A) a) (S 48 26) 0 0 with | .inl k => if a = -1 then nI k else -1 | .inr t => nI t, M') ∧ mk_M S A M' ∧ mk_fm M M' := by
  have t6 := hw.t6
  obtain ⟨M', h⟩ := mk_lpe (L := fun n k i M => F_M_told_b18 N n a (nI k) (nI i) M) (S 48 26) (mk_ng1 (mk_fit S A) a) (fun _ _ M1 => mk_M S A M1 ∧ mk_fm M M1) (fun M1 => mk_M S A M1 ∧ mk_fm M M1) (fun k M => some (if a = -1 then nI k else -1, M)) (fun t M => some (nI t, M))
    (fun n s M1 p => by
      rw [F_M_told_b18, p.1.ts, if_pos (Int32.le_refl _)]
      split <;> rfl)
    (fun n k i M1 hi p => by
      obtain ⟨hX1, f1⟩ := p
      obtain ⟨M2, e2, x2, f2⟩ := mk_Mfit hN hw hX1 hi
      refine ⟨M2, ?_⟩
      rw [F_M_told_b18, hX1.ts, if_neg (nI_ge hi (by omega)), e2]
      simp only [Option.bind_some, mk_bi0]
      rw [nI_1, nI_1]
      unfold mk_ng1
      cases hf : mk_fit S A i with
      | false => exact Or.inl ⟨k, rfl, ⟨x2, f1.tr f2⟩, rfl⟩
      | true =>
        rw [if_neg (show ¬ true = false by simp), if_pos (show true = true from rfl)]
        by_cases d : nI k = a
        · exact Or.inr ⟨i, by rw [if_pos d], ⟨x2, f1.tr f2⟩, by rw [if_pos d]⟩
        · exact Or.inl ⟨k + 1, by rw [if_neg d], ⟨x2, f1.tr f2⟩, by rw [if_neg d]⟩)
    (S 48 26) 0 N 0 M (by omega) (by omega) ⟨hM, mk_fm.rf⟩
  refine ⟨M', ?_⟩
  rcases h with ⟨s, g, p, e⟩ | ⟨r, g, p, e⟩
  · rw [g]; exact ⟨e, p⟩
  · rw [g]; exact ⟨e, p⟩
theorem nw_m1 (a : Int32) : a = -1 ∨ a < -1 ∨ -1 ≤ a ∧ ¬ a = -1 := by
  by_cases c : a = -1
  · exact Or.inl c
  · by_cases d : -1 ≤ a
    · exact Or.inr (Or.inr ⟨d, c⟩)
    · refine Or.inr (Or.inl (Int32.lt_iff_toInt_lt.mpr ?_))
      have := fun k => d (Int32.le_iff_toInt_le.mpr k)
      exact Int.not_le.mp this
theorem nw_below {a : Int32} (h : a < -1) (j : Nat) (hj : j < 2 ^ 31) : ¬ nI j = a := by
  intro e
  rw [← e, nl_m1] at h
  simp (disch := omega) only [nw_ltm] at h
end Told2
theorem op_25 {N : Nat} (hN : 1000 ≤ N) : mo_25 N mk_I := by
  intro M ⟨S, A, hw, hX, hM⟩ a
  have h6 := hw.h6
  have t6 := hw.t6
  by_cases c : S 48 25 = 0
  · refine mk_fin (r := -1) hw hX hM (mk_QX.same fun M hX => ?_) (mk_QM.same fun M hM => ?_)
    · unfold F_W_told; rw [mk_Xtold0 hX c]; rfl
    · unfold F_M_told; rw [if_pos (mk_H0 hM c)]
  refine mk_fin (r := if a = -1 then nI (mk_cn (mk_fit S A) (S 48 26)) else mk_no (mk_fe (mk_ng1 (mk_fit S A) a) (S 48 26) 0 0)) hw hX hM (fun M hX => ?_) (fun M hM => ?_)
  · obtain ⟨M1, e1, x1⟩ := mk_Xfits hN hw hX
    refine ⟨M1, ?_, x1⟩
    unfold F_W_told
    rw [mk_Xtold1 hX hw (by omega)]
    simp only [Option.bind_some]
    rw [if_neg (by decide +kernel), e1]
    simp only [Option.bind_some]
    rw [mk_bc (mk_bits64 _ _ t6), mk_XbitAt hN hw, mk_pc_bits _ t6]
    split <;> rfl
  · unfold F_M_told
    rw [if_neg (mk_H1 hM hw c)]
    rcases nw_m1 a with d | d | ⟨d, d'⟩
    · subst d
      rw [if_pos (by decide +kernel), if_pos rfl]
      obtain ⟨M1, e1, x1⟩ := mk_Mtolds hN hw hM (-1)
      have e9 := mk_fe_cn (mk_fit S A) (a := -1) (S 48 26) 0 (fun j hj => by
        rw [nl_m1]
        simp (disch := omega) only [nw_eqm]
        trivial)
      rw [mk_cn, Nat.zero_add] at e9
      rw [e9] at e1
      refine ⟨M1, ?_, x1⟩
      exact e1
    · have d1 : ¬ (-1 : Int32) ≤ a := fun k => by
        have h1 := Int32.lt_iff_toInt_lt.mp d
        have h2 := Int32.le_iff_toInt_le.mp k
        omega
      have d2 : ¬ a = -1 := fun k => by rw [k] at d; exact absurd d (by decide +kernel)
      rw [if_neg d1, if_neg d2]
      obtain ⟨k, e9⟩ := mk_fe_m1 (mk_fit S A) (a := a) (S 48 26) 0 0 (by omega) (fun j hj => nw_below d j (by omega))
      rw [e9]
      exact ⟨M, rfl, hM, mk_fm.rf⟩
    · rw [if_pos d, if_neg d']
      obtain ⟨M1, e1, x1⟩ := mk_Mtolds hN hw hM a
      refine ⟨M1, ?_, x1⟩
      refine e1.trans ?_
      cases mk_fe (mk_ng1 (mk_fit S A) a) (S 48 26) 0 0 with
      | inl k => show some (if a = -1 then _ else _, M1) = _; rw [if_neg d']; rfl
      | inr t => rfl
