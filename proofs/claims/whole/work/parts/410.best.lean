/-! ===== the pure side: loops; best, most ===== -/
def mk_fo {σ : Type} (g : Nat → σ → σ) : Nat → Nat → σ → σ
  | 0, _, s => s
  | d + 1, i, s => mk_fo g d (i + 1) (g i s)
theorem mk_lp {σ R : Type} (L : Nat → σ → Nat → mj_M → Option R) (b : Nat) (g : Nat → σ → σ) (P : Nat → σ → mj_M → Prop) (ret : σ → mj_M → Option R) (h0 : ∀ n s M, P b s M → L (n + 1) s b M = ret s M) (h1 : ∀ n s i M, i < b → P i s M → ∃ M', P (i + 1) (g i s) M' ∧ L (n + 1) s i M = L n (g i s) (i + 1) M') : ∀ d i n s M, i + d = b → d < n → P i s M → ∃ M', P b (mk_fo g d i s) M' ∧ L n s i M = ret (mk_fo g d i s) M' := by
  intro d
  induction d with
  | zero =>
    intro i n s M hi hn hP
    obtain ⟨n, rfl⟩ : ∃ k, n = k + 1 := ⟨n - 1, by omega⟩
    have : i = b := by omega
    subst this
    exact ⟨M, hP, h0 n s M hP⟩
  | succ d ih =>
    intro i n s M hi hn hP
    obtain ⟨n, rfl⟩ : ∃ k, n = k + 1 := ⟨n - 1, by omega⟩
    obtain ⟨M1, p1, e1⟩ := h1 n s i M (by omega) hP
    obtain ⟨M2, p2, e2⟩ := ih (i + 1) n (g i s) M1 (by omega) (by omega) p1
    exact ⟨M2, p2, e1.trans e2⟩
theorem nw_sle {a b : Nat} (ha : a < 2 ^ 30) (hb : b < 2 ^ 30) : (nI a - nI b ≤ 0) = (a ≤ b) := by
  rw [eq_iff_iff, Int32.le_iff_toInt_le, pk_sub_toInt ha hb, show (0 : Int32).toInt = 0 from rfl]
  omega
section Best
variable {N : Nat} {S : mk_S} {A : mk_L}
/-- the best of those that he has, the first of the best -/
def mk_bg (f : Nat → Nat) (o : Nat) : Nat → Option Nat → Option Nat := fun t s => if nw_b o t = 0 then s else match s with | none => some t | some b => if f t ≤ f b then some b else some t
def mk_best (f : Nat → Nat) (o T : Nat) : Option Nat := mk_fo (mk_bg f o) T 0 none
def mk_e1 : Option Nat → Int32
  | none => -nI 1
  | some t => nI t
def mk_e2 (f : Nat → Nat) : Option Nat → Int32
  | none => -nI 1
  | some t => nI (f t)
def mk_ol (T : Nat) : Option Nat → Prop
  | none => True
  | some t => t < T
theorem mk_bg_l {f : Nat → Nat} {o T t : Nat} {s : Option Nat} (h : mk_ol T s) (ht : t < T) : mk_ol T (mk_bg f o t s) := by
  unfold mk_bg
  split
  · exact h
  · cases s with
    | none => exact ht
    | some b =>
      show mk_ol T (if f t ≤ f b then some b else some t)
      split
      · exact h
      · exact ht
/-- what the plans leave as it was -/
def mk_pl (M0 M : mj_M) : Prop := (∀ c, c ≠ 9 → c ≠ 12 → c ≠ 33 → M c = M0 c) ∧ ∀ k, 2 ≤ k → M 33 k = M0 33 k
theorem mk_pl.rf {M : mj_M} : mk_pl M M := ⟨fun _ _ _ _ => rfl, fun _ _ => rfl⟩
theorem mk_pl.tr {M M1 M2 : mj_M} (h : mk_pl M M1) (k : mk_pl M1 M2) : mk_pl M M2 := ⟨fun c h1 h2 h3 => (k.1 c h1 h2 h3).trans (h.1 c h1 h2 h3), fun j hj => (k.2 j hj).trans (h.2 j hj)⟩
theorem mk_pl.X {M0 M : mj_M} (h : mk_pl M0 M) (hX : mk_X S A M0) : mk_X S A M := hX.sc fun c hc => h.1 c (by unfold mk_sx at hc; omega) (by unfold mk_sx at hc; omega) (by unfold mk_sx at hc; omega)
theorem mk_pl.fx {M0 M : mj_M} (h : mk_pl M0 M) : mk_fx M0 M := fun c hc => h.1 c (by omega) (by omega) (by omega)
theorem mk_pl.st {M0 M M' : mj_M} (h : mk_pl M0 M) (f : ∀ c, c ≠ 9 → c ≠ 12 → M' c = M c) : mk_pl M0 M' := ⟨fun c h1 h2 h3 => (f c h1 h2).trans (h.1 c h1 h2 h3), fun k hk => by rw [f 33 (by omega) (by omega)]; exact h.2 k hk⟩
theorem mk_pl.u {M0 M : mj_M} (h : mk_pl M0 M) {k : Nat} {v : Int32} (hk : k < 2) : mk_pl M0 (mj_u M 33 k v) := ⟨fun c h1 h2 h3 => by rw [nw_u9 _ h3]; exact h.1 c h1 h2 h3, fun j hj => by rw [mj_u_eq, mj_up_ne _ _ _ (by omega)]; exact h.2 j hj⟩
theorem mk_Xbest22 (hN : 1000 ≤ N) (hw : mk_W S A) {M : mj_M} (hX : mk_X S A M) {h : Nat} (hh : h < S 48 25) {rh : Nat → Nat} (hr : ∀ k, k < 36 → M 22 k = nI (rh k) ∧ rh k ≤ 99) : ∃ M', F_Plans_findBest_c22 N (nI h) M = some M' ∧ mk_pl M M' ∧ M' 33 0 = mk_e1 (mk_best (fun t => mk_by S A h t (rh (h * 6 + t)) (S 65 (36 + t))) (S 65 43) (S 48 26)) ∧ M' 33 1 = mk_e2 (fun t => mk_by S A h t (rh (h * 6 + t)) (S 65 (36 + t))) (mk_best (fun t => mk_by S A h t (rh (h * 6 + t)) (S 65 (36 + t))) (S 65 43) (S 48 26)) ∧ mk_ol (S 48 26) (mk_best (fun t => mk_by S A h t (rh (h * 6 + t)) (S 65 (36 + t))) (S 65 43) (S 48 26)) := by
  have h6 := hw.h6
  have t6 := hw.t6
  unfold F_Plans_findBest_c22
  simp only [mj_lt]
  obtain ⟨M', p, e⟩ := mk_lp (L := fun n _ i M => F_Plans_findBest_c22_b12 N n (nI h) (nI i) M) (S 48 26) (mk_bg (fun t => mk_by S A h t (rh (h * 6 + t)) (S 65 (36 + t))) (S 65 43)) (fun _ s M1 => mk_pl M M1 ∧ M1 33 0 = mk_e1 s ∧ M1 33 1 = mk_e2 (fun t => mk_by S A h t (rh (h * 6 + t)) (S 65 (36 + t))) s ∧ mk_ol (S 48 26) s) (fun _ M => some M)
    (fun n s M1 p => by
      have hX1 := p.1.X hX
      rw [F_Plans_findBest_c22_b12, hX1.ts, if_pos (Int32.le_refl _)])
    (fun n s i M1 hi p => by
      obtain ⟨p1, p2, p3, p4⟩ := p
      have hX1 := p1.X hX
      have hb := nw_b2 (S 65 43) i
      rw [F_Plans_findBest_c22_b12, hX1.ts, if_neg (nI_ge hi (by omega)), mk_Xowns hX1 hw (by omega)]
      simp only [Option.bind_some]
      by_cases c : nw_b (S 65 43) i = 0
      · refine ⟨M1, ⟨p1, ?_, ?_, mk_bg_l p4 hi⟩, ?_⟩
        · rw [p2]; unfold mk_bg; rw [if_pos c]
        · rw [p3]; unfold mk_bg; rw [if_pos c]
        · rw [c, if_pos (by decide +kernel), nI_1]
      · have c1 : nw_b (S 65 43) i = 1 := by omega
        obtain ⟨r1, r2⟩ := hr (h * 6 + i) (by omega)
        have r3 : M1 22 (h * 6 + i) = nI (rh (h * 6 + i)) := by rw [p1.1 22 (by omega) (by omega) (by omega)]; exact r1
        obtain ⟨M2, e2, f2⟩ := mk_Xby hN hw hX1 hh hi r2 (hw.now.knots i hi)
        have hf20 := mk_by20 S A h i (rh (h * 6 + i)) (S 65 (36 + i))
        rw [c1, if_neg (by decide +kernel)]
        simp (disch := omega) only [nl_6, nl_1, nI_add, pk_mul, nw_ck, nI_clamp]
        rw [r3, hX1.now.knots i hi, e2]
        simp only [Option.bind_some, mj_lt]
        rw [f2 33 (by omega) (by omega), p3]
        have go : ∀ M3 : mj_M, mk_pl M M3 → ∃ M', (mk_pl M M' ∧ M' 33 0 = mk_e1 (some i) ∧ M' 33 1 = mk_e2 (fun t => mk_by S A h t (rh (h * 6 + t)) (S 65 (36 + t))) (some i) ∧ mk_ol (S 48 26) (some i)) ∧ F_Plans_findBest_c22_b12 N n (nI h) (nI (i + 1)) (mj_u (mj_u M3 33 1 (nI (mk_by S A h i (rh (h * 6 + i)) (S 65 (36 + i))))) 33 0 (nI i)) = F_Plans_findBest_c22_b12 N n (nI h) (nI (i + 1)) M' := by
          intro M3 p
          refine ⟨_, ⟨(p.u (by omega)).u (by omega), ?_, ?_, hi⟩, rfl⟩
          · rw [mj_u_eq, mj_up_eq]; rfl
          · rw [mj_u_eq, mj_up_ne _ _ _ (by omega), mj_u_eq, mj_up_eq]; rfl
        cases s with
        | none =>
          rw [if_neg (by show ¬ nI _ ≤ -nI 1; simp (disch := omega) only [nw_lem]; trivial)]
          have eg : mk_bg (fun t => mk_by S A h t (rh (h * 6 + t)) (S 65 (36 + t))) (S 65 43) i none = some i := by unfold mk_bg; rw [if_neg c]
          rw [eg]
          exact go M2 (p1.st f2)
        | some b =>
          have hfb := mk_by20 S A h b (rh (h * 6 + b)) (S 65 (36 + b))
          show ∃ M', _ ∧ (if nI (mk_by S A h i (rh (h * 6 + i)) (S 65 (36 + i))) ≤ nI (mk_by S A h b (rh (h * 6 + b)) (S 65 (36 + b))) then _ else _) = _
          simp (disch := omega) only [nw_le]
          by_cases d : mk_by S A h i (rh (h * 6 + i)) (S 65 (36 + i)) ≤ mk_by S A h b (rh (h * 6 + b)) (S 65 (36 + b))
          · have eg : mk_bg (fun t => mk_by S A h t (rh (h * 6 + t)) (S 65 (36 + t))) (S 65 43) i (some b) = some b := by unfold mk_bg; rw [if_neg c]; show (if _ then _ else _) = _; rw [if_pos d]
            rw [eg, if_pos d]
            exact ⟨M2, ⟨p1.st f2, by rw [f2 33 (by omega) (by omega)]; exact p2, by rw [f2 33 (by omega) (by omega)]; exact p3, p4⟩, rfl⟩
          · have eg : mk_bg (fun t => mk_by S A h t (rh (h * 6 + t)) (S 65 (36 + t))) (S 65 43) i (some b) = some i := by unfold mk_bg; rw [if_neg c]; show (if _ then _ else _) = _; rw [if_neg d]
            rw [eg, if_neg d]
            exact go M2 (p1.st f2))
    (S 48 26) 0 N none (mj_u (mj_u M 33 0 (-1)) 33 1 (-1)) (by omega) (by omega) ⟨(mk_pl.rf.u (by omega)).u (by omega), by rw [mj_u_eq, mj_up_ne _ _ _ (by omega), mj_u_eq, mj_up_eq]; rfl, by rw [mj_u_eq, mj_up_eq]; rfl, trivial⟩
  exact ⟨M', e, p.1, p.2.1, p.2.2.1, p.2.2.2⟩
theorem mk_Xbest36 (hN : 1000 ≤ N) (hw : mk_W S A) {M : mj_M} (hX : mk_X S A M) {h : Nat} (hh : h < S 48 25) {rh : Nat → Nat} (hr : ∀ k, k < 36 → M 36 k = nI (rh k) ∧ rh k ≤ 99) : ∃ M', F_Plans_findBest_c36 N (nI h) M = some M' ∧ mk_pl M M' ∧ M' 33 0 = mk_e1 (mk_best (fun t => mk_by S A h t (rh (h * 6 + t)) (S 65 (36 + t))) (S 65 43) (S 48 26)) ∧ M' 33 1 = mk_e2 (fun t => mk_by S A h t (rh (h * 6 + t)) (S 65 (36 + t))) (mk_best (fun t => mk_by S A h t (rh (h * 6 + t)) (S 65 (36 + t))) (S 65 43) (S 48 26)) ∧ mk_ol (S 48 26) (mk_best (fun t => mk_by S A h t (rh (h * 6 + t)) (S 65 (36 + t))) (S 65 43) (S 48 26)) := by
  have h6 := hw.h6
  have t6 := hw.t6
  unfold F_Plans_findBest_c36
  simp only [mj_lt]
  obtain ⟨M', p, e⟩ := mk_lp (L := fun n _ i M => F_Plans_findBest_c36_b12 N n (nI h) (nI i) M) (S 48 26) (mk_bg (fun t => mk_by S A h t (rh (h * 6 + t)) (S 65 (36 + t))) (S 65 43)) (fun _ s M1 => mk_pl M M1 ∧ M1 33 0 = mk_e1 s ∧ M1 33 1 = mk_e2 (fun t => mk_by S A h t (rh (h * 6 + t)) (S 65 (36 + t))) s ∧ mk_ol (S 48 26) s) (fun _ M => some M)
    (fun n s M1 p => by
      have hX1 := p.1.X hX
      rw [F_Plans_findBest_c36_b12, hX1.ts, if_pos (Int32.le_refl _)])
    (fun n s i M1 hi p => by
      obtain ⟨p1, p2, p3, p4⟩ := p
      have hX1 := p1.X hX
      have hb := nw_b2 (S 65 43) i
      rw [F_Plans_findBest_c36_b12, hX1.ts, if_neg (nI_ge hi (by omega)), mk_Xowns hX1 hw (by omega)]
      simp only [Option.bind_some]
      by_cases c : nw_b (S 65 43) i = 0
      · refine ⟨M1, ⟨p1, ?_, ?_, mk_bg_l p4 hi⟩, ?_⟩
        · rw [p2]; unfold mk_bg; rw [if_pos c]
        · rw [p3]; unfold mk_bg; rw [if_pos c]
        · rw [c, if_pos (by decide +kernel), nI_1]
      · have c1 : nw_b (S 65 43) i = 1 := by omega
        obtain ⟨r1, r2⟩ := hr (h * 6 + i) (by omega)
        have r3 : M1 36 (h * 6 + i) = nI (rh (h * 6 + i)) := by rw [p1.1 36 (by omega) (by omega) (by omega)]; exact r1
        obtain ⟨M2, e2, f2⟩ := mk_Xby hN hw hX1 hh hi r2 (hw.now.knots i hi)
        have hf20 := mk_by20 S A h i (rh (h * 6 + i)) (S 65 (36 + i))
        rw [c1, if_neg (by decide +kernel)]
        simp (disch := omega) only [nl_6, nl_1, nI_add, pk_mul, nw_ck, nI_clamp]
        rw [r3, hX1.now.knots i hi, e2]
        simp only [Option.bind_some, mj_lt]
        rw [f2 33 (by omega) (by omega), p3]
        have go : ∀ M3 : mj_M, mk_pl M M3 → ∃ M', (mk_pl M M' ∧ M' 33 0 = mk_e1 (some i) ∧ M' 33 1 = mk_e2 (fun t => mk_by S A h t (rh (h * 6 + t)) (S 65 (36 + t))) (some i) ∧ mk_ol (S 48 26) (some i)) ∧ F_Plans_findBest_c36_b12 N n (nI h) (nI (i + 1)) (mj_u (mj_u M3 33 1 (nI (mk_by S A h i (rh (h * 6 + i)) (S 65 (36 + i))))) 33 0 (nI i)) = F_Plans_findBest_c36_b12 N n (nI h) (nI (i + 1)) M' := by
          intro M3 p
          refine ⟨_, ⟨(p.u (by omega)).u (by omega), ?_, ?_, hi⟩, rfl⟩
          · rw [mj_u_eq, mj_up_eq]; rfl
          · rw [mj_u_eq, mj_up_ne _ _ _ (by omega), mj_u_eq, mj_up_eq]; rfl
        cases s with
        | none =>
          rw [if_neg (by show ¬ nI _ ≤ -nI 1; simp (disch := omega) only [nw_lem]; trivial)]
          have eg : mk_bg (fun t => mk_by S A h t (rh (h * 6 + t)) (S 65 (36 + t))) (S 65 43) i none = some i := by unfold mk_bg; rw [if_neg c]
          rw [eg]
          exact go M2 (p1.st f2)
        | some b =>
          have hfb := mk_by20 S A h b (rh (h * 6 + b)) (S 65 (36 + b))
          show ∃ M', _ ∧ (if nI (mk_by S A h i (rh (h * 6 + i)) (S 65 (36 + i))) ≤ nI (mk_by S A h b (rh (h * 6 + b)) (S 65 (36 + b))) then _ else _) = _
          simp (disch := omega) only [nw_le]
          by_cases d : mk_by S A h i (rh (h * 6 + i)) (S 65 (36 + i)) ≤ mk_by S A h b (rh (h * 6 + b)) (S 65 (36 + b))
          · have eg : mk_bg (fun t => mk_by S A h t (rh (h * 6 + t)) (S 65 (36 + t))) (S 65 43) i (some b) = some b := by unfold mk_bg; rw [if_neg c]; show (if _ then _ else _) = _; rw [if_pos d]
            rw [eg, if_pos d]
            exact ⟨M2, ⟨p1.st f2, by rw [f2 33 (by omega) (by omega)]; exact p2, by rw [f2 33 (by omega) (by omega)]; exact p3, p4⟩, rfl⟩
          · have eg : mk_bg (fun t => mk_by S A h t (rh (h * 6 + t)) (S 65 (36 + t))) (S 65 43) i (some b) = some i := by unfold mk_bg; rw [if_neg c]; show (if _ then _ else _) = _; rw [if_neg d]
            rw [eg, if_neg d]
            exact go M2 (p1.st f2))
    (S 48 26) 0 N none (mj_u (mj_u M 33 0 (-1)) 33 1 (-1)) (by omega) (by omega) ⟨(mk_pl.rf.u (by omega)).u (by omega), by rw [mj_u_eq, mj_up_ne _ _ _ (by omega), mj_u_eq, mj_up_eq]; rfl, by rw [mj_u_eq, mj_up_eq]; rfl, trivial⟩
  exact ⟨M', e, p.1, p.2.1, p.2.2.1, p.2.2.2⟩
theorem mk_Mbest (hN : 1000 ≤ N) (hw : mk_W S A) {M : mj_M} (hM : mk_M S A M) {h : Nat} (hh : h < S 48 25) : ∃ M', F_M_bestIn N (nI h) M = some (mk_e1 (mk_best (mk_now S A h) (S 65 43) (S 48 26)), M') ∧ (∀ c, c ≠ 57 → c ≠ 58 → M' c = M c) ∧ mk_ol (S 48 26) (mk_best (mk_now S A h) (S 65 43) (S 48 26)) := by
  have h6 := hw.h6
  have t6 := hw.t6
  obtain ⟨M', p, e⟩ := mk_lp (L := fun n s i M => F_M_bestIn_b4 N n (nI h) (mk_e1 s) (nI i) M) (S 48 26) (mk_bg (mk_now S A h) (S 65 43)) (fun _ s M1 => (∀ c, c ≠ 57 → c ≠ 58 → M1 c = M c) ∧ mk_ol (S 48 26) s) (fun s M => some (mk_e1 s, M))
    (fun n s M1 p => by
      have hM1 := (hM.q p.1).1
      rw [F_M_bestIn_b4, hM1.ts, if_pos (Int32.le_refl _)])
    (fun n s i M1 hi p => by
      obtain ⟨p1, p4⟩ := p
      have hM1 := (hM.q p1).1
      have hb := nw_b2 (S 65 43) i
      have hol := mk_bg_l (f := mk_now S A h) (o := S 65 43) p4 hi
      rw [F_M_bestIn_b4, hM1.ts, if_neg (nI_ge hi (by omega)), mk_Mowns hM1 hw (by omega)]
      simp only [Option.bind_some]
      by_cases c : nw_b (S 65 43) i = 0
      · refine ⟨M1, ⟨p1, hol⟩, ?_⟩
        have eg : mk_bg (mk_now S A h) (S 65 43) i s = s := by unfold mk_bg; rw [if_pos c]
        rw [c, if_pos (by decide +kernel), nI_1, eg]
      · have c1 : nw_b (S 65 43) i = 1 := by omega
        rw [c1, if_neg (by decide +kernel), nI_1]
        cases s with
        | none =>
          refine ⟨M1, ⟨p1, hol⟩, ?_⟩
          have eg : mk_bg (mk_now S A h) (S 65 43) i none = some i := by unfold mk_bg; rw [if_neg c]
          rw [eg, if_pos (show mk_e1 none = -1 from rfl)]
          rfl
        | some b =>
          have hb6 : b < S 48 26 := p4
          rw [if_neg (show ¬ mk_e1 (some b) = (-1 : Int32) from (show ¬ nI b = -nI 1 by simp (disch := omega) only [nw_eqm]; trivial))]
          obtain ⟨M2, e2, f2⟩ := mk_Mnow hN hw hM1 hh hi
          have p2 : ∀ c, c ≠ 57 → c ≠ 58 → M2 c = M c := fun c h1 h2 => (f2 c h1 h2).trans (p1 c h1 h2)
          obtain ⟨M3, e3, f3⟩ := mk_Mnow hN hw (hM.q p2).1 hh hb6
          have hf1 := mk_now20 S A h i
          have hf2 := mk_now20 S A h b
          rw [e2]
          simp only [Option.bind_some]
          rw [show mk_e1 (some b) = nI b from rfl, e3]
          simp only [Option.bind_some]
          simp (disch := omega) only [nw_le]
          refine ⟨M3, ⟨fun c h1 h2 => (f3 c h1 h2).trans (p2 c h1 h2), hol⟩, ?_⟩
          have eg : mk_bg (mk_now S A h) (S 65 43) i (some b) = if mk_now S A h i ≤ mk_now S A h b then some b else some i := by unfold mk_bg; rw [if_neg c]
          rw [eg]
          split <;> rfl)
    (S 48 26) 0 N none M (by omega) (by omega) ⟨fun _ _ _ => rfl, trivial⟩
  exact ⟨M', e, p.1, p.2⟩
end Best
theorem op_20 {N : Nat} (hN : 1000 ≤ N) : mo_20 N mk_I := by
  intro M ⟨S, A, hw, hX, hM⟩ a b
  have h6 := hw.h6
  have t6 := hw.t6
  rcases mk_ix a (n := S 48 25) (by omega) with h | ⟨h, hh, rfl⟩
  · refine mk_fin (r := -1) hw hX hM (mk_QX.same fun M hX => ?_) (mk_QM.same fun M hM => ?_)
    · unfold F_W_best; rw [mk_Xh0 hX h]; rfl
    · unfold F_M_best; rw [mk_Mh0 hM hw h]; rfl
  rcases mk_ix b (n := 2) (by omega) with h' | ⟨k, hk, rfl⟩
  · refine mk_fin (r := -1) hw hX hM (mk_QX.same fun M hX => ?_) (mk_QM.same fun M hM => ?_)
    · unfold F_W_best; rw [mk_Xh1 hX hw hh]
      simp only [Option.bind_some]
      rw [if_neg (by decide +kernel)]
      by_cases c : b < 0
      · rw [if_pos c]
      · rw [if_neg c, nl_1, if_neg (nw_gt (h'.resolve_left c) (by omega)).2.1]
    · unfold F_M_best; rw [mk_Mh1 hM hw hh]
      simp only [Option.bind_some]
      rw [if_neg (by decide +kernel), nl_0, nl_1, mk_Mino h' (by omega)]; rfl
  refine mk_fin (r := if k = 0 then mk_e1 (mk_best (mk_now S A h) (S 65 43) (S 48 26)) else mk_e2 (mk_now S A h) (mk_best (mk_now S A h) (S 65 43) (S 48 26))) hw hX hM (fun M hX => ?_) (fun M hM => ?_)
  · obtain ⟨M', e, p, e1, e2, _⟩ := mk_Xbest22 hN hw hX hh (fun k hk => ⟨hX.now.heard k hk, hw.now.heard k hk⟩)
    refine ⟨M', ?_, p.X hX, p.fx⟩
    unfold F_W_best
    rw [mk_Xh1 hX hw hh]
    simp only [Option.bind_some]
    rw [if_neg (by decide +kernel), if_neg (nI_pos (by omega)), nl_1, if_pos (nI_le (by omega) (by omega)), e]
    simp (disch := omega) only [nl_0, nw_eq, Option.bind_some]
    rw [e1, e2]
    split <;> rfl
  · obtain ⟨M1, e1, f1, l1⟩ := mk_Mbest hN hw hM hh
    have hM1 := hM.q f1
    have hh2 : ∃ M', (if mk_e1 (mk_best (mk_now S A h) (S 65 43) (S 48 26)) = -nI 1 then some (mk_e1 (mk_best (mk_now S A h) (S 65 43) (S 48 26)), M1) else if nI k = nI 0 then some (mk_e1 (mk_best (mk_now S A h) (S 65 43) (S 48 26)), M1) else (F_M_nightsNow N (nI h) (mk_e1 (mk_best (mk_now S A h) (S 65 43) (S 48 26))) M1).bind fun q8 => some (q8.1, q8.2)) = some (if k = 0 then mk_e1 (mk_best (mk_now S A h) (S 65 43) (S 48 26)) else mk_e2 (mk_now S A h) (mk_best (mk_now S A h) (S 65 43) (S 48 26)), M') ∧ mk_M S A M' ∧ mk_fm M M' := by
      simp (disch := omega) only [nw_eq]
      cases hb : mk_best (mk_now S A h) (S 65 43) (S 48 26) with
      | none =>
        refine ⟨M1, ?_, hM1⟩
        rw [if_pos (show mk_e1 none = -nI 1 from rfl)]
        split <;> rfl
      | some t =>
        rw [hb] at l1
        have l1 : t < S 48 26 := l1
        rw [if_neg (show ¬ mk_e1 (some t) = -nI 1 from (show ¬ nI t = -nI 1 by simp (disch := omega) only [nw_eqm]; trivial))]
        by_cases c : k = 0
        · rw [if_pos c, if_pos c]
          exact ⟨M1, rfl, hM1⟩
        · rw [if_neg c, if_neg c]
          obtain ⟨M2, e2, x2, f2⟩ := mk_Mnow' hN hw hM1.1 hh l1
          refine ⟨M2, ?_, x2, hM1.2.tr f2⟩
          show (F_M_nightsNow N (nI h) (nI t) M1).bind _ = _
          rw [e2]; rfl
    obtain ⟨M', e', x⟩ := hh2
    refine ⟨M', ?_, x⟩
    unfold F_M_best
    rw [mk_Mh1 hM hw hh]
    simp only [Option.bind_some]
    rw [if_neg (by decide +kernel), nl_0, nl_1, mk_Mini (by omega) (by omega)]
    simp only [Option.bind_some]
    rw [if_neg (by decide +kernel), e1]
    exact e'
