/-! ===== the pure side: two tales one behind the other ===== -/
theorem mk_fo_ad {σ : Type} (g : Nat → σ → σ) : ∀ d e i s, mk_fo g (d + e) i s = mk_fo g e (i + d) (mk_fo g d i s) := by
  intro d
  induction d with
  | zero => intro e i s; rw [Nat.zero_add]; rfl
  | succ d ih =>
    intro e i s
    rw [show d + 1 + e = (d + e) + 1 by omega, mk_fo, mk_fo, ih, show i + 1 + d = i + (d + 1) by omega]
theorem mk_fo_sh {σ : Type} (g g' : Nat → σ → σ) : ∀ d i j s, (∀ k, k < d → g (i + k) = g' (j + k)) → mk_fo g d i s = mk_fo g' d j s := by
  intro d
  induction d with
  | zero => intro i j s _; rfl
  | succ d ih =>
    intro i j s h
    rw [mk_fo, mk_fo]
    have h0 := h 0 (by omega)
    rw [Nat.add_zero, Nat.add_zero] at h0
    rw [h0]
    exact ih (i + 1) (j + 1) _ (fun k hk => by rw [show i + 1 + k = i + (k + 1) by omega, show j + 1 + k = j + (k + 1) by omega]; exact h (k + 1) (by omega))
theorem mk_fo_pr {σ : Type} (g : Nat → Nat → σ → σ) {T : Nat} (hT : 0 < T) : ∀ H a s, mk_fo (fun k s => g (k / T) (k % T) s) (H * T) (a * T) s = mk_fo (fun h s => mk_fo (fun t s => g h t s) T 0 s) H a s := by
  intro H
  induction H with
  | zero => intro a s; rw [Nat.zero_mul]; rfl
  | succ H ih =>
    intro a s
    rw [show (H + 1) * T = T + H * T by rw [Nat.add_mul, Nat.one_mul, Nat.add_comm], mk_fo_ad, mk_fo]
    rw [show a * T + T = (a + 1) * T by rw [Nat.add_mul, Nat.one_mul], ih]
    congr 1
    refine mk_fo_sh _ _ T (a * T) 0 s (fun k hk => ?_)
    funext s
    rw [show a * T + k = k + T * a by rw [Nat.add_comm, Nat.mul_comm], Nat.add_mul_div_left _ _ hT, Nat.div_eq_of_lt hk, Nat.add_mul_mod_self_left, Nat.mod_eq_of_lt hk, Nat.zero_add, Nat.zero_add]
theorem mk_fo_id {σ : Type} {g : Nat → σ → σ} (h : ∀ j s, g j s = s) : ∀ d i s, mk_fo g d i s = s := by
  intro d
  induction d with
  | zero => intro i s; rfl
  | succ d ih => intro i s; rw [mk_fo, h, ih]
def mk_c2 (row sum : Nat) : Option (Nat × Nat) → Option (Nat × Nat)
  | none => some (row, sum)
  | some q => if sum ≤ q.2 then some q else some (row, sum)
def mk_er : Option (Nat × Nat) → Int32
  | none => -nI 1
  | some q => nI q.1
def mk_es : Option (Nat × Nat) → Int32
  | none => -nI 1
  | some q => nI q.2
def mk_ob (B : Nat) : Option (Nat × Nat) → Prop
  | none => True
  | some q => q.1 < B ∧ q.2 < 1000
theorem mk_c2_ob {B row sum : Nat} {o : Option (Nat × Nat)} (h : mk_ob B o) (h1 : row < B) (h2 : sum < 1000) : mk_ob B (mk_c2 row sum o) := by
  cases o with
  | none => exact ⟨h1, h2⟩
  | some q =>
    rw [mk_c2]
    split
    · exact h
    · exact ⟨h1, h2⟩
def mk_n2 (S : mk_S) (A : mk_L) (h t h2 t2 : Nat) : Nat := if h2 = h ∧ t2 = t then mk_once S A h t else mk_now S A h2 t2
def mk_br (S : mk_S) (A : mk_L) (h t : Nat) : Nat := mk_ba (S 65 44 - nw_d h (S 65 42)) (mk_now S A h t)
def mk_h2 (S : mk_S) (A : mk_L) (h t h2 t2 : Nat) (o : Option (Nat × Nat)) : Option (Nat × Nat) := if nw_b (S 65 43) t2 = 0 then o else if mk_br S A h t < nw_d h2 h then o else mk_c2 (1000 * h + 100 * t + 10 * h2 + t2) (mk_now S A h t + mk_n2 S A h t h2 t2) o
def mk_f2 (S : mk_S) (A : mk_L) (h t : Nat) (o : Option (Nat × Nat)) : Option (Nat × Nat) := mk_fo (fun h2 o => mk_fo (fun t2 o => mk_h2 S A h t h2 t2 o) (S 48 26) 0 o) (S 48 25) 0 o
def mk_h1 (S : mk_S) (A : mk_L) (h t : Nat) (o : Option (Nat × Nat)) : Option (Nat × Nat) := if nw_b (S 65 43) t = 0 then o else if S 65 44 < nw_d h (S 65 42) then o else mk_f2 S A h t o
def mk_f1 (S : mk_S) (A : mk_L) : Option (Nat × Nat) := mk_fo (fun h o => mk_fo (fun t o => mk_h1 S A h t o) (S 48 26) 0 o) (S 48 25) 0 none
section Two
variable {N : Nat} {S : mk_S} {A : mk_L}
/-- the plans' rows while two are sought -/
def mk_tx (S : mk_S) (A : mk_L) (M0 : mj_M) (o : Option (Nat × Nat)) (M : mj_M) : Prop := (∀ c, c ≠ 9 → c ≠ 12 → c ≠ 33 → c ≠ 34 → c ≠ 35 → M c = M0 c) ∧ mk_we S A (S 48 25) M ∧ M 33 2 = mk_er o ∧ M 33 3 = mk_es o ∧ mk_ob 10000 o
theorem mk_tx.X {M0 M : mj_M} {o : Option (Nat × Nat)} (h : mk_tx S A M0 o M) (hX : mk_X S A M0) : mk_X S A M ∧ mk_fx M0 M :=
  ⟨hX.sc fun c hc => h.1 c (by unfold mk_sx at hc; omega) (by unfold mk_sx at hc; omega) (by unfold mk_sx at hc; omega) (by unfold mk_sx at hc; omega) (by unfold mk_sx at hc; omega), fun c hc => h.1 c (by omega) (by omega) (by omega) (by omega) (by omega)⟩
theorem mk_Xc2 {M0 M : mj_M} {o : Option (Nat × Nat)} {h t h2 t2 s0 s1 : Nat} (hr : mk_tx S A M0 o M) (hh : h < 6) (ht : t < 6) (hh2 : h2 < 6) (ht2 : t2 < 6) (hs0 : s0 ≤ 20) (hs1 : s1 ≤ 20) (k : Int32 → Int32 → Int32 → mj_M → Option mj_M) : ∃ M', F_Plans_trySecondsIn_b61 N k (nI h2) (nI (h * 6 + t)) (nI t2) (nI (h2 * 6 + t2)) (nI s0) (nI s1) M = k (nI h2) (nI (h * 6 + t)) (nI (t2 + 1)) M' ∧ mk_tx S A M0 (mk_c2 (1000 * h + 100 * t + 10 * h2 + t2) (s0 + s1) o) M' ∧ M' 35 = M 35 := by
  obtain ⟨r1, r2, r3, r4, r5⟩ := hr
  have new : ∃ M', (mj_lt (mj_u M 33 3 (nI (s0 + s1))) (fun M8 => (F_Plans_digitsOf (nI (h * 6 + t)) M8).bind (fun q9 => (F_Plans_digitsOf (nI (h2 * 6 + t2)) q9.2).bind (fun q10 => mj_lt (mj_u q10.2 33 2 ((q9.1 * (100 : Int32)) + q10.1)) (fun M11 => k (nI h2) (nI (h * 6 + t)) (nI t2 + (1 : Int32)) M11))))) = k (nI h2) (nI (h * 6 + t)) (nI (t2 + 1)) M' ∧ mk_tx S A M0 (some (1000 * h + 100 * t + 10 * h2 + t2, s0 + s1)) M' ∧ M' 35 = M 35 := by
    have hdg : ∀ (a b : Nat) (M : mj_M), a < 6 → b < 6 → F_Plans_digitsOf (nI (a * 6 + b)) M = some (nI (10 * a + b), M) := by
      intro a b M ha hb
      unfold F_Plans_digitsOf
      rw [nl_6, pk_rem (by omega) (by omega) (by omega), pk_div (by omega) (by omega) (by omega), nl_10, pk_mul, nI_add]
      congr 3
      omega
    simp only [mj_lt]
    rw [hdg h t _ hh ht]
    simp only [mk_bs]
    rw [hdg h2 t2 _ hh2 ht2]
    simp only [mk_bs]
    rw [nl_100, pk_mul, nI_add, nI_1, show (10 * h + t) * 100 + (10 * h2 + t2) = 1000 * h + 100 * t + 10 * h2 + t2 by omega]
    refine ⟨_, rfl, ⟨fun c c1 c2 c3 c4 c5 => by rw [nw_u9 _ c3, nw_u9 _ c3]; exact r1 c c1 c2 c3 c4 c5, fun a b ha hb => by rw [nw_u9 _ (by omega), nw_u9 _ (by omega)]; exact r2 a b ha hb, ?_, ?_, ?_⟩, by rw [nw_u9 _ (by omega), nw_u9 _ (by omega)]⟩
    · rw [mj_u_eq, mj_up_eq]; rfl
    · rw [mj_u_eq, mj_up_ne _ _ _ (by omega), mj_u_eq, mj_up_eq]; rfl
    · exact ⟨by omega, by omega⟩
  unfold F_Plans_trySecondsIn_b61
  rw [nI_add]
  simp only [mj_lt] at new ⊢
  rw [r4]
  cases o with
  | none =>
    rw [if_neg (show ¬ nI (s0 + s1) ≤ mk_es none from (show ¬ nI (s0 + s1) ≤ -nI 1 by simp (disch := omega) only [nw_lem]; trivial)), mk_c2]
    exact new
  | some q =>
    have hq : q.1 < 10000 ∧ q.2 < 1000 := r5
    rw [show mk_es (some q) = nI q.2 from rfl, mk_c2]
    simp (disch := omega) only [nw_le]
    by_cases c : s0 + s1 ≤ q.2
    · rw [if_pos c, if_pos c, nI_1]
      exact ⟨M, rfl, ⟨r1, r2, r3, r4, r5⟩, rfl⟩
    · rw [if_neg c, if_neg c]
      exact new
theorem mk_Xin (hN : 1000 ≤ N) (hw : mk_W S A) {M0 M : mj_M} (hX : mk_X S A M0) {o : Option (Nat × Nat)} {h t h2 : Nat} (hr : mk_tx S A M0 o M) (hh : h < S 48 25) (ht : t < S 48 26) (hh2 : h2 < S 48 25) (h35 : M 35 (h * 6 + t) = nI (mk_once S A h t)) (hd : ¬ mk_br S A h t < nw_d h2 h) : ∃ M', F_Plans_trySecondsIn N (nI h2) (nI (h * 6 + t)) M = some M' ∧ mk_tx S A M0 (mk_fo (fun t2 o => mk_h2 S A h t h2 t2 o) (S 48 26) 0 o) M' ∧ M' 35 = M 35 := by
  have h6 := hw.h6
  have t6 := hw.t6
  obtain ⟨M', p, q⟩ := mk_lp (L := fun n (_ : Option (Nat × Nat)) i M => F_Plans_trySecondsIn_b2 N n (nI h2) (nI (h * 6 + t)) (nI i) M) (S 48 26) (fun t2 o => mk_h2 S A h t h2 t2 o) (fun _ o M1 => mk_tx S A M0 o M1 ∧ M1 35 = M 35) (fun _ M => some M)
    (fun n s M1 p => by rw [F_Plans_trySecondsIn_b2, (p.1.X hX).1.ts, if_pos (Int32.le_refl _)])
    (fun n o t2 M1 ht2 p => by
      obtain ⟨p1, p2⟩ := p
      obtain ⟨x1, -⟩ := p1.X hX
      have hb := nw_b2 (S 65 43) t2
      have n1 := mk_now20 S A h t
      have n2 := mk_now20 S A h2 t2
      have n3 : mk_once S A h t ≤ 20 := mk_by20 ..
      rw [F_Plans_trySecondsIn_b2, x1.ts, if_neg (nI_ge ht2 (by omega)), mk_Xowns x1 hw (by omega)]
      simp only [mk_bs, mj_lt]
      unfold mk_h2
      by_cases c : nw_b (S 65 43) t2 = 0
      · rw [if_pos c, c, if_pos (show nI 0 = (0 : Int32) from rfl), nI_1]
        exact ⟨M1, ⟨p1, p2⟩, rfl⟩
      · rw [if_neg c, if_neg hd, show nw_b (S 65 43) t2 = 1 by omega, if_neg (show ¬ nI 1 = (0 : Int32) by decide +kernel), nl_6, pk_mul, nI_add, nw_ck (by omega) (by omega)]
        simp (disch := omega) only [nw_eq, nw_ck, nI_clamp]
        rw [p1.2.1 h t hh ht, p1.2.1 h2 t2 hh2 ht2, p2]
        unfold mk_n2
        by_cases e : h2 = h ∧ t2 = t
        · rw [if_pos e, if_pos (by rw [e.1, e.2]), show M 35 (h2 * 6 + t2) = nI (mk_once S A h t) by rw [e.1, e.2]; exact h35]
          obtain ⟨M2, e2, r2, f2⟩ := mk_Xc2 (N := N) (h := h) (t := t) (h2 := h2) (t2 := t2) p1 (by omega) (by omega) (by omega) (by omega) n1 n3 (F_Plans_trySecondsIn_b2 N n)
          exact ⟨M2, ⟨r2, f2.trans p2⟩, e2⟩
        · rw [if_neg e, if_neg (by omega)]
          obtain ⟨M2, e2, r2, f2⟩ := mk_Xc2 (N := N) (h := h) (t := t) (h2 := h2) (t2 := t2) p1 (by omega) (by omega) (by omega) (by omega) n1 n2 (F_Plans_trySecondsIn_b2 N n)
          exact ⟨M2, ⟨r2, f2.trans p2⟩, e2⟩)
    (S 48 26) 0 N o M (by omega) (by omega) ⟨hr, rfl⟩
  exact ⟨M', q, p.1, p.2⟩
theorem mk_Xbehind (hN : 1000 ≤ N) (hw : mk_W S A) {M0 M : mj_M} (hX : mk_X S A M0) {o : Option (Nat × Nat)} {h t : Nat} (hr : mk_tx S A M0 o M) (hh : h < S 48 25) (ht : t < S 48 26) (h35 : M 35 (h * 6 + t) = nI (mk_once S A h t)) (hb : nw_d h (S 65 42) ≤ S 65 44) : ∃ M', F_Plans_trySecondsBehind N (nI h) (nI t) M = some M' ∧ mk_tx S A M0 (mk_f2 S A h t o) M' := by
  have h6 := hw.h6
  have t6 := hw.t6
  have hbr := hw.now.bread
  obtain ⟨x1, -⟩ := hr.X hX
  have n1 := mk_now20 S A h t
  have hb9 : mk_br S A h t ≤ 999 := by unfold mk_br mk_ba; split <;> omega
  have eba : ∀ M7 : mj_M, F_Stand_breadAfter (nI (S 65 44 - nw_d h (S 65 42))) (nI (mk_now S A h t)) M7 = some (nI (mk_br S A h t), M7) := by
    intro M7
    unfold F_Stand_breadAfter mk_br mk_ba
    rw [(nw_max0 (b := S 65 44 - nw_d h (S 65 42)) (by omega)).1, nl_3, pk_div (by omega) (by omega) (by omega), nI_add, nl_999, nw_min (by omega) (by omega)]
    simp (disch := omega) only [nl_0, nw_eq]
    split <;> rfl
  unfold F_Plans_trySecondsBehind
  simp only [mj_lt]
  rw [mk_Xfar x1 hw (by omega)]
  simp only [mk_bs]
  rw [nl_6, pk_mul, nI_add, nw_ck (by omega) (by omega), nI_clamp (by omega), x1.now.2.2.1, pk_sub hb, hr.2.1 h t hh ht, eba]
  simp only [mk_bs]
  obtain ⟨M', p, q⟩ := mk_lp (L := fun n (_ : Option (Nat × Nat)) i M => F_Plans_trySecondsBehind_b37 N n (nI h) (nI (h * 6 + t)) (nI (mk_br S A h t)) (nI i) M) (S 48 25) (fun h2 o => mk_fo (fun t2 o => mk_h2 S A h t h2 t2 o) (S 48 26) 0 o) (fun _ o M1 => mk_tx S A M0 o M1 ∧ M1 35 = M 35) (fun _ M => some M)
    (fun n s M1 p => by rw [F_Plans_trySecondsBehind_b37, (p.1.X hX).1.hs, if_pos (Int32.le_refl _)])
    (fun n o h2 M1 hh2 p => by
      obtain ⟨p1, p2⟩ := p
      have hdd : nw_d h2 h < 20 := by unfold nw_d; omega
      rw [F_Plans_trySecondsBehind_b37, (p1.X hX).1.hs, if_neg (nI_ge hh2 (by omega)), nw_abs (by omega) (by omega)]
      simp (disch := omega) only [nw_lt]
      by_cases c : mk_br S A h t < nw_d h2 h
      · rw [if_pos c, nI_1]
        refine ⟨M1, ⟨?_, p2⟩, rfl⟩
        have : mk_fo (fun t2 o => mk_h2 S A h t h2 t2 o) (S 48 26) 0 o = o := mk_fo_id (fun j s => by
          unfold mk_h2
          rw [if_pos c]
          split <;> rfl) _ _ _
        rw [this]
        exact p1
      · rw [if_neg c]
        obtain ⟨M2, e2, r2, f2⟩ := mk_Xin hN hw hX p1 hh ht hh2 (by rw [p2]; exact h35) c
        rw [e2]
        simp only [mk_bs]
        rw [nI_1]
        exact ⟨M2, ⟨r2, f2.trans p2⟩, rfl⟩)
    (S 48 25) 0 N o M (by omega) (by omega) ⟨hr, rfl⟩
  exact ⟨M', q, p.1⟩
theorem mk_Xtwo (hN : 1000 ≤ N) (hw : mk_W S A) {M0 : mj_M} (hX : mk_X S A M0) : ∃ M', F_Plans_findTwo N M0 = some M' ∧ mk_tx S A M0 (mk_f1 S A) M' := by
  have h6 := hw.h6
  have t6 := hw.t6
  have hbr := hw.now.bread
  have hX2 : mk_X S A (mj_u (mj_u M0 33 2 (-1)) 33 3 (-1)) := hX.sc (fun c hc => by rw [nw_u9 _ (by rintro rfl; exact hc (by unfold mk_sx; omega)), nw_u9 _ (by rintro rfl; exact hc (by unfold mk_sx; omega))])
  obtain ⟨M1, e1, f1, w1⟩ := mk_Xweigh hN hw hX2
  have r1 : mk_tx S A M0 none M1 := by
    refine ⟨fun c c1 c2 c3 c4 c5 => by rw [f1 c c1 c2 c4, nw_u9 _ c3, nw_u9 _ c3], w1, ?_, ?_, trivial⟩
    · rw [f1 33 (by omega) (by omega) (by omega), mj_u_eq, mj_up_ne _ _ _ (by omega), mj_u_eq, mj_up_eq]; rfl
    · rw [f1 33 (by omega) (by omega) (by omega), mj_u_eq, mj_up_eq]; rfl
  unfold F_Plans_findTwo
  simp only [mj_lt]
  rw [e1]
  simp only [mk_bs]
  obtain ⟨M', p, q⟩ := mk_lp (L := fun n (_ : Option (Nat × Nat)) i M => F_Plans_findTwo_b16 N n (nI i) M) (S 48 25) (fun h o => mk_fo (fun t o => mk_h1 S A h t o) (S 48 26) 0 o) (fun _ o M1 => mk_tx S A M0 o M1) (fun _ M => some M)
    (fun n s M1 p => by rw [F_Plans_findTwo_b16, (p.X hX).1.hs, if_pos (Int32.le_refl _)])
    (fun n o h M2 hh p => by
      obtain ⟨M3, p3, q3⟩ := mk_lp (L := fun m (_ : Option (Nat × Nat)) i M => F_Plans_findTwo_b29 N (F_Plans_findTwo_b16 N n) m (nI h) (nI i) M) (S 48 26) (fun t o => mk_h1 S A h t o) (fun _ o M1 => mk_tx S A M0 o M1) (fun _ M => F_Plans_findTwo_b16 N n (nI (h + 1)) M)
        (fun m s M3 p => by rw [F_Plans_findTwo_b29, (p.X hX).1.ts, if_pos (Int32.le_refl _), nI_1])
        (fun m o t M3 ht p => by
          obtain ⟨x3, -⟩ := p.X hX
          have hb := nw_b2 (S 65 43) t
          have hs := hw.now.spot
          have hdd : nw_d h (S 65 42) < 20 := by unfold nw_d; omega
          rw [F_Plans_findTwo_b29, x3.ts, if_neg (nI_ge ht (by omega)), mk_Xowns x3 hw (by omega)]
          simp only [mk_bs]
          unfold mk_h1
          by_cases c : nw_b (S 65 43) t = 0
          · rw [if_pos c, c, if_pos (show nI 0 = (0 : Int32) from rfl), nI_1]
            exact ⟨M3, p, rfl⟩
          · rw [if_neg c, show nw_b (S 65 43) t = 1 by omega, if_neg (show ¬ nI 1 = (0 : Int32) by decide +kernel), mk_Xfar x3 hw (by omega)]
            simp only [mk_bs]
            rw [x3.now.2.2.1]
            simp (disch := omega) only [nw_lt]
            by_cases d : S 65 44 < nw_d h (S 65 42)
            · rw [if_pos d, if_pos d, nI_1]
              exact ⟨M3, p, rfl⟩
            · rw [if_neg d, if_neg d]
              obtain ⟨M4, e4, f4⟩ := mk_Xonce hN hw x3 hh ht
              rw [e4]
              simp only [mk_bs, mj_lt]
              rw [nl_6, pk_mul, nI_add, nw_ck (by omega) (by omega), nI_clamp (by omega)]
              have r4 : mk_tx S A M0 o (mj_u M4 35 (h * 6 + t) (nI (mk_once S A h t))) := by
                obtain ⟨a1, a2, a3, a4, a5⟩ := p
                exact ⟨fun c c1 c2 c3 c4 c5 => by rw [nw_u9 _ c5, f4 c c1 c2]; exact a1 c c1 c2 c3 c4 c5, fun a b ha hb => by rw [nw_u9 _ (by omega), f4 34 (by omega) (by omega)]; exact a2 a b ha hb, by rw [nw_u9 _ (by omega), f4 33 (by omega) (by omega)]; exact a3, by rw [nw_u9 _ (by omega), f4 33 (by omega) (by omega)]; exact a4, a5⟩
              obtain ⟨M5, e5, r5⟩ := mk_Xbehind hN hw hX r4 hh ht (by rw [mj_u_eq, mj_up_eq]) (by omega)
              rw [e5]
              simp only [mk_bs]
              rw [nI_1]
              exact ⟨M5, r5, rfl⟩)
        (S 48 26) 0 N o M2 (by omega) (by omega) p
      refine ⟨M3, p3, ?_⟩
      rw [F_Plans_findTwo_b16, (p.X hX).1.hs, if_neg (nI_ge hh (by omega))]
      exact q3)
    (S 48 25) 0 N none M1 (by omega) (by omega) r1
  exact ⟨M', q, p⟩
end Two
