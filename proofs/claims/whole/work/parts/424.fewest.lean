/-! ===== the pure side: fewest ===== -/
section Weigh
variable {N : Nat} {S : mk_S} {A : mk_L}
def mk_fw (M M' : mj_M) : Prop := ∀ c, c ≠ 9 → c ≠ 12 → c ≠ 34 → M' c = M c
theorem mk_fw.X {M M' : mj_M} (f : mk_fw M M') (hX : mk_X S A M) : mk_X S A M' ∧ mk_fx M M' :=
  ⟨hX.sc fun c hc => f c (by unfold mk_sx at hc; omega) (by unfold mk_sx at hc; omega) (by unfold mk_sx at hc; omega), fun c hc => f c (by omega) (by omega) (by omega)⟩
/-- all weighed: the houses ahead of n -/
def mk_we (S : mk_S) (A : mk_L) (n : Nat) (M : mj_M) : Prop := ∀ h t, h < n → t < S 48 26 → M 34 (h * 6 + t) = nI (mk_now S A h t)
theorem mk_Xweigh (hN : 1000 ≤ N) (hw : mk_W S A) {M : mj_M} (hX : mk_X S A M) : ∃ M', F_Plans_weighAll N M = some M' ∧ mk_fw M M' ∧ mk_we S A (S 48 25) M' := by
  have h6 := hw.h6
  have t6 := hw.t6
  obtain ⟨M', p, q⟩ := mk_lp (L := fun n (_ : Unit) i M => F_Plans_weighAll_b2 N n (nI i) M) (S 48 25) (fun _ s => s) (fun i _ M1 => mk_fw M M1 ∧ mk_we S A i M1) (fun _ M => some M)
    (fun n s M1 p => by rw [F_Plans_weighAll_b2, (p.1.X hX).1.hs, if_pos (Int32.le_refl _)])
    (fun n s h M1 hh p => by
      obtain ⟨f1, w1⟩ := p
      obtain ⟨M2, p2, q2⟩ := mk_lp (L := fun m (_ : Unit) i M => F_Plans_weighAll_b15 N (F_Plans_weighAll_b2 N n) m (nI h) (nI i) M) (S 48 26) (fun _ s => s) (fun i _ M2 => mk_fw M M2 ∧ mk_we S A h M2 ∧ ∀ t, t < i → M2 34 (h * 6 + t) = nI (mk_now S A h t)) (fun _ M => F_Plans_weighAll_b2 N n (nI (h + 1)) M)
        (fun m s M2 p => by rw [F_Plans_weighAll_b15, (p.1.X hX).1.ts, if_pos (Int32.le_refl _), nI_1])
        (fun m s t M2 ht p => by
          obtain ⟨f2, w2, r2⟩ := p
          obtain ⟨M3, e3, f3⟩ := mk_Xnow hN hw (f2.X hX).1 hh ht
          refine ⟨mj_u M3 34 (h * 6 + t) (nI (mk_now S A h t)), ⟨fun c h1 h2 h3 => ?_, fun a b ha hb => ?_, fun b hb => ?_⟩, ?_⟩
          · rw [nw_u9 _ h3, f3 c h1 h2]; exact f2 c h1 h2 h3
          · rw [mj_u_eq, mj_up_ne _ _ _ (by omega), f3 34 (by omega) (by omega)]; exact w2 a b ha hb
          · rw [mj_u_eq]
            by_cases e : b = t
            · rw [e, mj_up_eq]
            · rw [mj_up_ne _ _ _ (by omega), f3 34 (by omega) (by omega)]; exact r2 b (by omega)
          · rw [F_Plans_weighAll_b15, (f2.X hX).1.ts, if_neg (nI_ge ht (by omega)), e3]
            simp only [mk_bs, mj_lt]
            rw [nl_6, pk_mul, nI_add, nw_ck (by omega) (by omega), nI_clamp (by omega), nI_1])
        (S 48 26) 0 N () M1 (by omega) (by omega) ⟨f1, w1, fun t ht => by omega⟩
      refine ⟨M2, ⟨p2.1, fun a b ha hb => ?_⟩, ?_⟩
      · by_cases e : a = h
        · rw [e]; exact p2.2.2 b hb
        · exact p2.2.1 a b (by omega) hb
      · rw [F_Plans_weighAll_b2, (f1.X hX).1.hs, if_neg (nI_ge hh (by omega))]
        exact q2)
    (S 48 25) 0 N () M (by omega) (by omega) ⟨fun _ _ _ _ => rfl, fun a b ha _ => by omega⟩
  exact ⟨M', q, p⟩
end Weigh
def mk_any (p : Nat → Bool) : Nat → Bool
  | 0 => false
  | n + 1 => mk_any p n || p n
def mk_all (p : Nat → Bool) : Nat → Bool
  | 0 => true
  | n + 1 => mk_all p n && p n
theorem mk_any_iff (p : Nat → Bool) : ∀ n, mk_any p n = true ↔ ∃ t, t < n ∧ p t = true
  | 0 => by simp [mk_any]
  | n + 1 => by
    rw [mk_any, Bool.or_eq_true, mk_any_iff p n]
    constructor
    · rintro (⟨t, h1, h2⟩ | h)
      · exact ⟨t, by omega, h2⟩
      · exact ⟨n, by omega, h⟩
    · rintro ⟨t, h1, h2⟩
      by_cases e : t = n
      · exact Or.inr (e ▸ h2)
      · exact Or.inl ⟨t, by omega, h2⟩
theorem mk_all_iff (p : Nat → Bool) : ∀ n, mk_all p n = true ↔ ∀ t, t < n → p t = true
  | 0 => by simp [mk_all]
  | n + 1 => by
    rw [mk_all, Bool.and_eq_true, mk_all_iff p n]
    constructor
    · rintro ⟨h1, h2⟩ t ht
      by_cases e : t = n
      · rw [e]; exact h2
      · exact h1 t (by omega)
    · intro h
      exact ⟨fun t ht => h t (by omega), h n (by omega)⟩
section Fewest
variable {N : Nat} {S : mk_S} {A : mk_L}
def mk_sh (S : mk_S) (A : mk_L) (v s h : Nat) : Bool := mk_any (fun t => decide (nw_b s t = 1 ∧ v ≤ mk_now S A h t)) (S 48 26)
def mk_sv (S : mk_S) (A : mk_L) (v s : Nat) : Bool := mk_all (mk_sh S A v s) (S 48 25)
theorem mk_Xserves (hN : 1000 ≤ N) (hw : mk_W S A) {M : mj_M} (hX : mk_X S A M) (hwe : mk_we S A (S 48 25) M) {v s h : Nat} (hs : s < 64) (hv : v ≤ 20) (hh : h < S 48 25) : F_Plans_serves N (nI s) (nI h) (nI v) M = some (nI (mk_bi (mk_sh S A v s h)), M) := by
  have t6 := hw.t6
  have h6 := hw.h6
  have key : ∀ d i n, i + d = S 48 26 → d < n → (∀ j, j < i → ¬ (nw_b s j = 1 ∧ v ≤ mk_now S A h j)) → F_Plans_serves_b3 N n (nI s) (nI h) (nI v) (nI i) M = some (nI (mk_bi (mk_sh S A v s h)), M) := by
    intro d
    induction d with
    | zero =>
      intro i n hi hn hj
      obtain ⟨n, rfl⟩ : ∃ k, n = k + 1 := ⟨n - 1, by omega⟩
      have : i = S 48 26 := by omega
      subst this
      rw [F_Plans_serves_b3, hX.ts, if_pos (Int32.le_refl _)]
      have : mk_sh S A v s h = false := by
        cases e : mk_sh S A v s h with
        | false => rfl
        | true =>
          obtain ⟨t, ht, hp⟩ := (mk_any_iff _ _).mp e
          exact absurd (of_decide_eq_true hp) (hj t ht)
      rw [this]; rfl
    | succ d ih =>
      intro i n hi hn hj
      obtain ⟨n, rfl⟩ : ∃ k, n = k + 1 := ⟨n - 1, by omega⟩
      have hb := nw_b2 s i
      have h20 := mk_now20 S A h i
      rw [F_Plans_serves_b3, hX.ts, if_neg (nI_ge (by omega) (by omega)), nl_1, nl_31, nw_bit (by omega) (by omega), nl_6, pk_mul, nI_add, nI_add, nw_ck (by omega) (by omega), nI_clamp (by omega), hwe h i hh (by omega)]
      simp (disch := omega) only [nl_0, nw_eq, nw_lt]
      by_cases c : nw_b s i = 1 ∧ v ≤ mk_now S A h i
      · rw [if_neg (by omega), if_neg (by omega)]
        have : mk_sh S A v s h = true := (mk_any_iff _ _).mpr ⟨i, by omega, decide_eq_true c⟩
        rw [this]; rfl
      · have hr := ih (i + 1) n (by omega) (by omega) (fun j h1 => by
          by_cases e : j = i
          · rw [e]; exact c
          · exact hj j (by omega))
        by_cases c0 : nw_b s i = 0
        · rw [if_pos c0]; exact hr
        · rw [if_neg c0, if_pos (by omega)]; exact hr
  exact key (S 48 26) 0 N (by omega) (by omega) (fun j hj => by omega)
theorem mk_XservesAll (hN : 1000 ≤ N) (hw : mk_W S A) {M : mj_M} (hX : mk_X S A M) (hwe : mk_we S A (S 48 25) M) {v s : Nat} (hs : s < 64) (hv : v ≤ 20) : F_Plans_servesAll N (nI s) (nI v) M = some (nI (mk_bi (mk_sv S A v s)), M) := by
  have t6 := hw.t6
  have h6 := hw.h6
  have key : ∀ d i n, i + d = S 48 25 → d < n → (∀ j, j < i → mk_sh S A v s j = true) → F_Plans_servesAll_b2 N n (nI s) (nI v) (nI i) M = some (nI (mk_bi (mk_sv S A v s)), M) := by
    intro d
    induction d with
    | zero =>
      intro i n hi hn hj
      obtain ⟨n, rfl⟩ : ∃ k, n = k + 1 := ⟨n - 1, by omega⟩
      have : i = S 48 25 := by omega
      subst this
      rw [F_Plans_servesAll_b2, hX.hs, if_pos (Int32.le_refl _)]
      have : mk_sv S A v s = true := (mk_all_iff _ _).mpr hj
      rw [this]; rfl
    | succ d ih =>
      intro i n hi hn hj
      obtain ⟨n, rfl⟩ : ∃ k, n = k + 1 := ⟨n - 1, by omega⟩
      rw [F_Plans_servesAll_b2, hX.hs, if_neg (nI_ge (by omega) (by omega)), mk_Xserves hN hw hX hwe hs hv (by omega)]
      simp only [mk_bs, mk_bi0]
      cases c : mk_sh S A v s i with
      | false =>
        rw [if_pos rfl]
        have : mk_sv S A v s = false := by
          cases e : mk_sv S A v s with
          | false => rfl
          | true =>
            have := (mk_all_iff _ _).mp e i (by omega)
            rw [c] at this; cases this
        rw [this]; rfl
      | true =>
        rw [if_neg (by simp), nI_1]
        exact ih (i + 1) n (by omega) (by omega) (fun j h1 => by
          by_cases e : j = i
          · rw [e]; exact c
          · exact hj j (by omega))
  exact key (S 48 25) 0 N (by omega) (by omega) (fun j hj => by omega)
def mk_sp (s : Nat) : Option Nat → Option Nat
  | none => some s
  | some b => if mk_pc b ≤ mk_pc s then some b else some s
def mk_sg2 (S : mk_S) (A : mk_L) (v : Nat) : Nat → Option Nat → Option Nat := fun s b => if mk_sv S A v s then mk_sp s b else b
theorem mk_2T (hw : mk_W S A) : 2 ^ S 48 26 ≤ 64 ∧ 1 ≤ 2 ^ S 48 26 := by
  have t6 := hw.t6
  have : 2 ^ S 48 26 ≤ 2 ^ 6 := Nat.pow_le_pow_right (by omega) t6
  have := Nat.one_le_two_pow (n := S 48 26)
  omega
theorem mk_Xfewest (hN : 1000 ≤ N) (hw : mk_W S A) {M : mj_M} (hX : mk_X S A M) {v : Nat} (hv : v ≤ 20) : ∃ M', F_Plans_fewestFor N (nI v) M = some (mk_e1 (mk_fo (mk_sg2 S A v) (2 ^ S 48 26 - 1) 1 none), M') ∧ mk_X S A M' ∧ mk_fx M M' := by
  have t6 := hw.t6
  obtain ⟨h64, h1⟩ := mk_2T hw
  obtain ⟨M1, e1, f1, w1⟩ := mk_Xweigh hN hw hX
  obtain ⟨x1, g1⟩ := f1.X hX
  obtain ⟨M', p, q⟩ := mk_lp (L := fun n b i M => F_Plans_fewestFor_b12 N n (nI v) (mk_e1 b) (mk_e7 7 mk_pc b) (nI i) M) (2 ^ S 48 26) (mk_sg2 S A v) (fun _ _ M2 => M2 = M1) (fun b M => some (mk_e1 b, M))
    (fun n b M2 p => by
      rw [p, F_Plans_fewestFor_b12]
      unfold F_Coast_allTales
      simp only [mk_bs]
      rw [x1.ts, nl_1, nl_31, nw_shl (by omega), pk_sub h1, if_pos (nI_lt (by omega) (by omega))])
    (fun n b s M2 hs p => by
      refine ⟨M2, p, ?_⟩
      rw [p, F_Plans_fewestFor_b12]
      unfold F_Coast_allTales
      simp only [mk_bs]
      rw [x1.ts, nl_1, nl_31, nw_shl (by omega), pk_sub h1, if_neg (nI_nlt (by omega) (by omega)), mk_bc (by omega)]
      simp only [mk_bs]
      rw [mk_XservesAll hN hw x1 w1 (by omega) hv]
      simp only [mk_bs, mk_bi0]
      rw [nI_add]
      have h6 := mk_pc6 s
      unfold mk_sg2
      cases b with
      | none =>
        rw [if_neg (show ¬ mk_e7 7 mk_pc none ≤ nI (mk_pc s) from nI_ge (b := 7) (by omega) (by omega))]
        cases mk_sv S A v s <;> rfl
      | some b =>
        have h6b := mk_pc6 b
        show (if nI (mk_pc b) ≤ nI (mk_pc s) then _ else _) = _
        simp (disch := omega) only [nw_le]
        by_cases c : mk_pc b ≤ mk_pc s
        · rw [if_pos c]
          have : (if mk_sv S A v s = true then mk_sp s (some b) else some b) = some b := by
            rw [mk_sp]
            rw [if_pos c]
            split <;> rfl
          rw [this]
        · rw [if_neg c]
          cases mk_sv S A v s with
          | false => rfl
          | true =>
            rw [if_neg (by simp), if_pos rfl]
            rw [mk_sp]
            rw [if_neg c]
            rfl)
    (2 ^ S 48 26 - 1) 1 N none M1 (by omega) (by omega) rfl
  refine ⟨M1, ?_, x1, g1⟩
  unfold F_Plans_fewestFor
  rw [e1]
  simp only [mk_bs]
  rw [p] at q
  exact q
/-- the houses that a set of tales serves -/
def mk_co (S : mk_S) (A : mk_L) (v s : Nat) : Nat → Nat
  | 0 => 0
  | t + 1 => if nw_b s t = 0 then mk_co S A v s t else mk_co S A v s t ||| mk_wh S A t v
theorem mk_co_t (v s h : Nat) : ∀ n, (mk_co S A v s n).testBit h = mk_any (fun t => decide (nw_b s t = 1) && (decide (h < S 48 25) && decide (v ≤ mk_now S A h t))) n
  | 0 => by simp [mk_co, mk_any]
  | n + 1 => by
    have ih := mk_co_t v s h n
    have hb := nw_b2 s n
    rw [mk_co, mk_any, ← ih]
    by_cases c : nw_b s n = 0
    · rw [if_pos c]
      have : decide (nw_b s n = 1) = false := by simp; omega
      rw [this]; simp
    · rw [if_neg c, Nat.testBit_or]
      have : decide (nw_b s n = 1) = true := by simp; omega
      rw [this]
      unfold mk_wh
      rw [mk_bits_t]
      simp
theorem mk_co_full (v s : Nat) : (mk_co S A v s (S 48 26) = 2 ^ S 48 25 - 1) = (mk_sv S A v s = true) := by
  refine propext ⟨fun e => ?_, fun e => ?_⟩
  · refine (mk_all_iff _ _).mpr fun h hh => ?_
    have h1 := mk_co_t (S := S) (A := A) v s h (S 48 26)
    rw [e, Nat.testBit_two_pow_sub_one, decide_eq_true hh] at h1
    obtain ⟨t, ht, hp⟩ := (mk_any_iff _ _).mp h1.symm
    refine (mk_any_iff _ _).mpr ⟨t, ht, ?_⟩
    simp only [Bool.and_eq_true, decide_eq_true_eq] at hp ⊢
    exact ⟨hp.1, hp.2.2⟩
  · apply Nat.eq_of_testBit_eq
    intro h
    rw [mk_co_t, Nat.testBit_two_pow_sub_one]
    by_cases hh : h < S 48 25
    · rw [decide_eq_true hh]
      obtain ⟨t, ht, hp⟩ := (mk_any_iff _ _).mp ((mk_all_iff _ _).mp e h hh)
      refine (mk_any_iff _ _).mpr ⟨t, ht, ?_⟩
      simp only [Bool.and_eq_true, decide_eq_true_eq] at hp ⊢
      exact ⟨hp.1, by simp, hp.2⟩
    · rw [decide_eq_false hh]
      cases c : mk_any (fun t => decide (nw_b s t = 1) && (false && decide (v ≤ mk_now S A h t))) (S 48 26) with
      | false => rfl
      | true =>
        obtain ⟨t, ht, hp⟩ := (mk_any_iff _ _).mp c
        simp at hp
theorem mk_co64 (hw : mk_W S A) (v s : Nat) : ∀ n, mk_co S A v s n < 64
  | 0 => by simp [mk_co]
  | n + 1 => by
    have := mk_co64 hw v s n
    rw [mk_co]
    split
    · exact this
    · exact Nat.or_lt_two_pow (n := 6) this (mk_bits64 _ _ hw.h6)
theorem mk_Mfew1 (hN : 1000 ≤ N) (hw : mk_W S A) {M : mj_M} (hM : mk_M S A M) {v s : Nat} (hs : s < 64) (hv : v ≤ 20) (k : Int32 → Int32 → Int32 → mj_M → Option (Int32 × mj_M)) (b : Option Nat) (hb : mk_ol 64 b) : ∃ M', F_M_fewest_b39 N k N (nI v) (mk_e1 b) (nI s) 0 0 M = k (nI v) (mk_e1 (mk_sg2 S A v s b)) (nI (s + 1)) M' ∧ mk_M S A M' ∧ mk_fm M M' := by
  have t6 := hw.t6
  have h6 := hw.h6
  obtain ⟨M', p, q⟩ := mk_lp (L := fun n (_ : Unit) i M => F_M_fewest_b39 N k n (nI v) (mk_e1 b) (nI s) (nI (mk_co S A v s i)) (nI i) M) (S 48 26) (fun _ s => s) (fun _ _ M1 => mk_M S A M1 ∧ mk_fm M M1) (fun _ M1 => k (nI v) (mk_e1 (mk_sg2 S A v s b)) (nI (s + 1)) M1)
    (fun n u M1 p => by
      have h64 := mk_co64 hw v s (S 48 26)
      have hH : 2 ^ S 48 25 ≤ 2 ^ 6 := Nat.pow_le_pow_right (by omega) h6
      have hH1 := Nat.one_le_two_pow (n := S 48 25)
      have e97 : ∀ z : Bool, F_M_fewest_b97 N k (nI v) (mk_e1 b) (nI s) (nI (mk_bi z)) M1 = k (nI v) (mk_e1 (if z then mk_sp s b else b)) (nI (s + 1)) M1 := by
        intro z
        unfold F_M_fewest_b97
        simp only [mk_bi0]
        rw [nI_1]
        cases z with
        | false => rfl
        | true =>
          rw [if_neg (by simp), if_pos rfl]
          cases b with
          | none => rw [if_pos (show mk_e1 none = -1 from rfl)]; rfl
          | some b =>
            have hb' : b < 64 := hb
            have q1 := mk_pc6 b
            have q2 := mk_pc6 s
            rw [if_neg (show ¬ mk_e1 (some b) = (-1 : Int32) from (show ¬ nI b = -nI 1 by simp (disch := omega) only [nw_eqm]; trivial)), mk_bc hs]
            simp only [mk_bs]
            rw [show mk_e1 (some b) = nI b from rfl, mk_bc hb']
            simp only [mk_bs]
            simp (disch := omega) only [nw_le]
            rw [mk_sp]
            split <;> rfl
      rw [F_M_fewest_b39, p.1.ts, if_pos (Int32.le_refl _), p.1.hs, nl_1, nl_31, nw_shl (by omega), pk_sub hH1]
      simp (disch := omega) only [nw_eq]
      unfold mk_sg2
      have h1 := e97 true
      have h0 := e97 false
      have e1 : nI (mk_bi true) = nI 1 := rfl
      have e0 : nI (mk_bi false) = (0 : Int32) := rfl
      rw [e1] at h1
      rw [e0] at h0
      rw [h1, h0]
      simp only [mk_co_full]
      cases mk_sv S A v s <;> rfl)
    (fun n u t M1 ht p => by
      obtain ⟨x1, f1⟩ := p
      have hb2 := nw_b2 s t
      rw [F_M_fewest_b39, x1.ts, if_neg (nI_ge ht (by omega)), mk_Mhas (by omega) (by omega)]
      simp only [mk_bs, mj_lt]
      by_cases c : nw_b s t = 0
      · refine ⟨M1, ⟨x1, f1⟩, ?_⟩
        rw [c, if_pos (show nI 0 = (0 : Int32) from rfl), mk_co, if_pos c, nl_0, nw_or, Nat.or_zero, nI_1]
      · obtain ⟨M2, e2, x2, f2⟩ := mk_MwhereOf hN hw ht hv x1
        refine ⟨M2, ⟨x2, f1.tr f2⟩, ?_⟩
        rw [if_neg (show ¬ nI (nw_b s t) = (0 : Int32) from nI_ne0 (by omega) (by omega)), e2]
        simp only [mk_bs]
        rw [nw_or, mk_co, if_neg c, nI_1])
    (S 48 26) 0 N () M (by omega) (by omega) ⟨hM, mk_fm.rf⟩
  exact ⟨M', q, p⟩
theorem mk_Mfewest (hN : 1000 ≤ N) (hw : mk_W S A) {M : mj_M} (hM : mk_M S A M) {v : Nat} (hv : v ≤ 20) : ∃ M', F_M_fewest_b23 N N (nI v) (-1) 1 M = some (mk_e1 (mk_fo (mk_sg2 S A v) (2 ^ S 48 26 - 1) 1 none), M') ∧ mk_M S A M' ∧ mk_fm M M' := by
  have t6 := hw.t6
  obtain ⟨h64, h1⟩ := mk_2T hw
  obtain ⟨M', p, q⟩ := mk_lp (L := fun n b i M => F_M_fewest_b23 N n (nI v) (mk_e1 b) (nI i) M) (2 ^ S 48 26) (mk_sg2 S A v) (fun _ b M2 => mk_M S A M2 ∧ mk_fm M M2 ∧ mk_ol 64 b) (fun b M => some (mk_e1 b, M))
    (fun n b M2 p => by rw [F_M_fewest_b23, p.1.ts, nl_1, nl_31, nw_shl (by omega), if_pos (Int32.le_refl _)])
    (fun n b s M2 hs p => by
      obtain ⟨x2, f2, hb⟩ := p
      obtain ⟨M3, e3, x3, f3⟩ := mk_Mfew1 hN hw x2 (show s < 64 by omega) hv (F_M_fewest_b23 N n) b hb
      refine ⟨M3, ⟨x3, f2.tr f3, ?_⟩, ?_⟩
      · unfold mk_sg2
        cases b with
        | none =>
          split
          · show s < 64; omega
          · trivial
        | some b =>
          split
          · rw [mk_sp]
            split
            · exact hb
            · show s < 64; omega
          · exact hb
      · rw [F_M_fewest_b23, x2.ts, nl_1, nl_31, nw_shl (by omega), if_neg (nI_ge hs (by omega))]
        exact e3)
    (2 ^ S 48 26 - 1) 1 N none M (by omega) (by omega) ⟨hM, mk_fm.rf, trivial⟩
  exact ⟨M', q, p.1, p.2.1⟩
end Fewest
theorem op_23 {N : Nat} (hN : 1000 ≤ N) : mo_23 N mk_I := by
  intro M ⟨S, A, hw, hX, hM⟩ a
  have h6 := hw.h6
  by_cases c0 : S 48 25 = 0
  · refine mk_fin (r := -1) hw hX hM (mk_QX.same fun M hX => ?_) (mk_QM.same fun M hM => ?_)
    · unfold F_W_fewest; rw [mk_Xtold0 hX c0]; rfl
    · unfold F_M_fewest; rw [if_pos (mk_H0 hM c0)]
  have no : a < nI 1 ∨ nI (20 + 1) ≤ a → ∃ r M1 M2, F_W_fewest N a M = some (r, M1) ∧ F_M_fewest N a M1 = some (r, M2) ∧ mk_I M2 := by
    intro h'
    refine mk_fin (r := -1) hw hX hM (mk_QX.same fun M hX => ?_) (mk_QM.same fun M hM => ?_)
    · unfold F_W_fewest
      rw [mk_Xtold1 hX hw (by omega)]
      simp only [mk_bs]
      rw [if_neg (by decide +kernel)]
      by_cases d : a < 1
      · rw [if_pos d]
      · rw [if_neg d, nl_20, if_pos (nw_gt (h'.resolve_left d) (by omega)).1]
    · unfold F_M_fewest
      rw [if_neg (mk_H1 hM hw c0), nl_20, show F_M_in a 1 (nI 20) M = some (nI 0, M) from mk_Mloo (lo := 1) h' (by omega)]
      rfl
  rcases mk_ix a (n := 21) (by omega) with h' | ⟨v, hv, rfl⟩
  · refine no (h'.imp (fun k => ?_) id)
    have h1 := Int32.lt_iff_toInt_lt.mp k
    apply Int32.lt_iff_toInt_lt.mpr
    rw [nI_toInt (by omega)]
    rw [show (0 : Int32).toInt = 0 from rfl] at h1
    omega
  by_cases k0 : v = 0
  · subst k0
    exact no (Or.inl (by decide +kernel))
  refine mk_fin (r := mk_e1 (mk_fo (mk_sg2 S A v) (2 ^ S 48 26 - 1) 1 none)) hw hX hM (fun M hX => ?_) (fun M hM => ?_)
  · obtain ⟨M1, e1, x1⟩ := mk_Xfewest hN hw hX (show v ≤ 20 by omega)
    refine ⟨M1, ?_, x1⟩
    unfold F_W_fewest
    rw [mk_Xtold1 hX hw (by omega)]
    simp only [mk_bs]
    rw [if_neg (by decide +kernel), nl_1, if_neg (nI_nlt (by omega) (by omega)), nl_20, if_neg (nI_nlt (by omega) (by omega)), e1]
    rfl
  · obtain ⟨M1, e1, x1⟩ := mk_Mfewest hN hw hM (show v ≤ 20 by omega)
    refine ⟨M1, ?_, x1⟩
    unfold F_M_fewest
    rw [if_neg (mk_H1 hM hw c0), nl_20, show F_M_in (nI v) 1 (nI 20) M = some (nI 1, M) from mk_Mlo (lo := 1) (by omega) (by omega) (by omega)]
    simp only [mk_bs]
    rw [if_neg (show ¬ nI 1 = (0 : Int32) by decide +kernel)]
    exact e1
