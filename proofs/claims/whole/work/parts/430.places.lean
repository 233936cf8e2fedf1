/-! ===== the pure side: which tale for which house ===== -/
def mk_clr (l t : Nat) : Nat := l - (if nw_b l t = 1 then 2 ^ t else 0)
theorem mk_clr_x : ∀ l, l < 64 → ∀ t, t < 6 → nI l &&& (nI (2 ^ t) ^^^ -nI 1) = nI (mk_clr l t) := by decide +kernel
theorem mk_clr_b : ∀ l, l < 64 → ∀ t, t < 6 → ∀ s, s < 6 → nw_b (mk_clr l t) s = if s = t then 0 else nw_b l s := by decide +kernel
theorem mk_clr_l (l t : Nat) (h : l < 64) : mk_clr l t < 64 := by unfold mk_clr; omega
theorem mk_or_b : ∀ u, u < 64 → ∀ t, t < 6 → ∀ s, s < 6 → nw_b (u ||| 2 ^ t) s = if s = t then 1 else nw_b u s := by decide +kernel
section Places
variable {N : Nat} {S : mk_S} {A : mk_L}
def mk_wi (u p : Nat) : Nat := if p = 9 then u else u ||| 2 ^ p
/-- the nights by a tale (9: none) in the first of d + 1 houses -/
def mk_va (S : mk_S) (A : mk_L) (V : Nat → Nat) (h u p : Nat) : Nat := (if p = 9 then 0 else mk_now S A h p) + V (mk_wi u p)
def mk_pg1 (S : mk_S) (A : mk_L) (V : Nat → Nat) (h u : Nat) : Nat → Option (Nat × Nat) → Option (Nat × Nat) := fun t st => if nw_b (S 65 43) t = 0 then st else if nw_b u t = 0 then mk_c2 t (mk_va S A V h u t) st else st
def mk_pf (S : mk_S) (A : mk_L) (V : Nat → Nat) (h u : Nat) : Option (Nat × Nat) := mk_c2 9 (mk_va S A V h u 9) (mk_fo (mk_pg1 S A V h u) (S 48 26) 0 none)
def mk_gp (o : Option (Nat × Nat)) : Nat × Nat := o.getD (0, 0)
def mk_pV (S : mk_S) (A : mk_L) : Nat → Nat → Nat
  | 0, _ => 0
  | d + 1, u => (mk_gp (mk_pf S A (mk_pV S A d) (S 48 25 - (d + 1)) u)).2
def mk_pP (S : mk_S) (A : mk_L) (d u : Nat) : Nat := (mk_gp (mk_pf S A (mk_pV S A d) (S 48 25 - (d + 1)) u)).1
def mk_pr (S : mk_S) (A : mk_L) : Nat → Nat → Nat
  | 0, _ => 0
  | d + 1, u => mk_pP S A d u * 10 ^ d + mk_pr S A d (mk_wi u (mk_pP S A d u))
/-- what the seeking of a place knows -/
def mk_ps (S : mk_S) (A : mk_L) (V : Nat → Nat) (h u : Nat) : Option (Nat × Nat) → Prop
  | none => True
  | some q => q.2 = mk_va S A V h u q.1 ∧ q.1 < S 48 26
theorem mk_pg1_s {V : Nat → Nat} {h u t : Nat} {st : Option (Nat × Nat)} (hs : mk_ps S A V h u st) (ht : t < S 48 26) : mk_ps S A V h u (mk_pg1 S A V h u t st) := by
  unfold mk_pg1
  split
  · exact hs
  · split
    · cases st with
      | none => exact ⟨rfl, ht⟩
      | some q =>
        rw [mk_c2]
        split
        · exact hs
        · exact ⟨rfl, ht⟩
    · exact hs
theorem mk_pf_s (V : Nat → Nat) (h u : Nat) : ∃ q, mk_pf S A V h u = some q ∧ q.2 = mk_va S A V h u q.1 ∧ (q.1 = 9 ∨ q.1 < S 48 26) := by
  have h1 := mk_fo_inv (g := mk_pg1 S A V h u) (fun _ st => mk_ps S A V h u st) (S 48 26) 0 none (fun j s _ hj hs => mk_pg1_s hs (by omega)) trivial
  unfold mk_pf
  generalize mk_fo (mk_pg1 S A V h u) (S 48 26) 0 none = st at *
  cases st with
  | none => exact ⟨_, rfl, rfl, Or.inl rfl⟩
  | some q =>
    rw [mk_c2]
    split
    · exact ⟨q, rfl, h1.1, Or.inr h1.2⟩
    · exact ⟨_, rfl, rfl, Or.inl rfl⟩
theorem mk_pV1 (d u : Nat) : mk_pV S A (d + 1) u = mk_va S A (mk_pV S A d) (S 48 25 - (d + 1)) u (mk_pP S A d u) ∧ (mk_pP S A d u = 9 ∨ mk_pP S A d u < S 48 26) := by
  obtain ⟨q, e, h1, h2⟩ := mk_pf_s (S := S) (A := A) (mk_pV S A d) (S 48 25 - (d + 1)) u
  rw [mk_pV]
  unfold mk_pP
  rw [e]
  exact ⟨h1, h2⟩
theorem mk_pVb : ∀ d u, mk_pV S A d u ≤ 20 * d
  | 0, _ => Nat.le_refl _
  | d + 1, u => by
    obtain ⟨h1, h2⟩ := mk_pV1 (S := S) (A := A) d u
    have h3 := mk_pVb d (mk_wi u (mk_pP S A d u))
    have h4 := mk_now20 S A (S 48 25 - (d + 1)) (mk_pP S A d u)
    rw [h1]
    unfold mk_va
    split <;> omega
theorem mk_prb (hw : mk_W S A) : ∀ d u, mk_pr S A d u < 10 ^ d
  | 0, _ => by rw [mk_pr]; omega
  | d + 1, u => by
    have t6 := hw.t6
    have h2 := (mk_pV1 (S := S) (A := A) d u).2
    have h3 := mk_prb hw d (mk_wi u (mk_pP S A d u))
    rw [mk_pr, Nat.pow_succ]
    have : mk_pP S A d u * 10 ^ d ≤ 9 * 10 ^ d := Nat.mul_le_mul_right _ (by omega)
    omega
theorem mk_wi64 {u p : Nat} (hu : u < 64) (hp : p = 9 ∨ p < 6) : mk_wi u p < 64 := by
  unfold mk_wi
  split
  · exact hu
  · exact mk_or6 hu (by omega)
theorem mk_wiT {T u p : Nat} (hu : u < 2 ^ T) (hp : p = 9 ∨ p < T) (hT : T ≤ 6) : mk_wi u p < 2 ^ T := by
  unfold mk_wi
  split
  · exact hu
  · exact Nat.or_lt_two_pow hu (Nat.pow_lt_pow_right (by omega) (by omega))
/-- the plans' table while places are sought: from a house on -/
def mk_px (S : mk_S) (A : mk_L) (M0 : mj_M) (h : Nat) (M : mj_M) : Prop := (∀ c, c ≠ 9 → c ≠ 12 → c ≠ 33 → c ≠ 34 → c ≠ 37 → M c = M0 c) ∧ mk_we S A (S 48 25) M ∧ ∀ j u, h ≤ j → j ≤ S 48 25 → u < 2 ^ S 48 26 → M 37 (j * 64 + u) = nI (mk_pV S A (S 48 25 - j) u)
theorem mk_px.X {M0 M : mj_M} {h : Nat} (r : mk_px S A M0 h M) (hX : mk_X S A M0) : mk_X S A M ∧ mk_fx M0 M :=
  ⟨hX.sc fun c hc => r.1 c (by unfold mk_sx at hc; omega) (by unfold mk_sx at hc; omega) (by unfold mk_sx at hc; omega) (by unfold mk_sx at hc; omega) (by unfold mk_sx at hc; omega), fun c hc => r.1 c (by omega) (by omega) (by omega) (by omega) (by omega)⟩
theorem mk_Xwith {u p : Nat} {M : mj_M} (hp : p = 9 ∨ p < 6) : F_Plans_with (nI u) (nI p) M = some (nI (mk_wi u p), M) := by
  unfold F_Plans_with mk_wi
  rw [nl_9]
  simp (disch := omega) only [nw_eq]
  by_cases c : p = 9
  · rw [if_pos c, if_pos c]
  · rw [if_neg c, if_neg c, nl_1, nl_31, nw_shl (by omega), nw_or]
theorem mk_Xnby (hw : mk_W S A) {M0 M : mj_M} {h u p : Nat} (r : mk_px S A M0 (h + 1) M) (hh : h < S 48 25) (hu : u < 2 ^ S 48 26) (hp : p = 9 ∨ p < S 48 26) : F_Plans_nightsBy (nI h) (nI u) (nI p) M = some (nI (mk_va S A (mk_pV S A (S 48 25 - (h + 1))) h u p), M) := by
  have h6 := hw.h6
  have t6 := hw.t6
  obtain ⟨h64, -⟩ := mk_2T hw
  have hwi := mk_wiT hu hp t6
  have e21 : ∀ s, F_Plans_nightsBy_b21 (nI h) (nI u) (nI p) (nI s) M = some (nI (s + mk_pV S A (S 48 25 - (h + 1)) (mk_wi u p)), M) := by
    intro s
    unfold F_Plans_nightsBy_b21
    rw [mk_Xwith (by omega)]
    simp only [mk_bs]
    rw [nI_1, show (64 : Int32) = nI 64 from rfl, pk_mul, nI_add, nw_ck (by omega) (by omega), nI_clamp (by omega), r.2.2 (h + 1) _ (by omega) (by omega) hwi, nI_add]
  unfold F_Plans_nightsBy mk_va
  rw [nl_9]
  simp (disch := omega) only [nw_eq]
  by_cases c : p = 9
  · rw [if_pos c, if_pos c, nl_0, e21]
  · rw [if_neg c, if_neg c, nl_6, pk_mul, nI_add, nw_ck (by omega) (by omega), nI_clamp (by omega), r.2.1 h p hh (by omega), e21]
def mk_e9 : Option (Nat × Nat) → Int32
  | none => nI 9
  | some q => nI q.1
theorem mk_Xplace (hN : 1000 ≤ N) (hw : mk_W S A) {M0 M : mj_M} (hX : mk_X S A M0) {h u : Nat} (r : mk_px S A M0 (h + 1) M) (hh : h < S 48 25) (hu : u < 2 ^ S 48 26) : F_Plans_placeFor N (nI h) (nI u) M = some (nI (mk_gp (mk_pf S A (mk_pV S A (S 48 25 - (h + 1))) h u)).1, M) := by
  have h6 := hw.h6
  have t6 := hw.t6
  obtain ⟨h64, -⟩ := mk_2T hw
  obtain ⟨x1, -⟩ := r.X hX
  have hvb : ∀ p, mk_va S A (mk_pV S A (S 48 25 - (h + 1))) h u p ≤ 200 := by
    intro p
    have h3 := mk_pVb (S := S) (A := A) (S 48 25 - (h + 1)) (mk_wi u p)
    have h4 := mk_now20 S A h p
    unfold mk_va
    split <;> omega
  generalize hV : mk_pV S A (S 48 25 - (h + 1)) = V at *
  have hnb : ∀ p, p = 9 ∨ p < S 48 26 → F_Plans_nightsBy (nI h) (nI u) (nI p) M = some (nI (mk_va S A V h u p), M) := by
    intro p hp
    rw [← hV]
    exact mk_Xnby hw r hh hu hp
  obtain ⟨M', p, q⟩ := mk_lp (L := fun n st i M => F_Plans_placeFor_b9 N n (nI h) (nI u) (mk_e9 st) (mk_es st) (nI i) M) (S 48 26) (mk_pg1 S A V h u) (fun _ st M1 => M1 = M ∧ mk_ps S A V h u st) (fun st M => some (nI (mk_gp (mk_c2 9 (mk_va S A V h u 9) st)).1, M))
    (fun n st M1 p => by
      obtain ⟨rfl, hs⟩ := p
      rw [F_Plans_placeFor_b9, x1.ts, if_pos (Int32.le_refl _), nl_9, hnb 9 (Or.inl rfl)]
      simp only [mk_bs]
      have h9 := hvb 9
      cases st with
      | none =>
        rw [if_neg (show ¬ nI (mk_va S A V h u 9) ≤ mk_es none from (show ¬ nI (mk_va S A V h u 9) ≤ -nI 1 by simp (disch := omega) only [nw_lem]; trivial)), mk_c2]
        rfl
      | some q =>
        have hq : q.2 ≤ 200 := by rw [hs.1]; exact hvb _
        rw [show mk_es (some q) = nI q.2 from rfl, mk_c2]
        simp (disch := omega) only [nw_le]
        split <;> rfl)
    (fun n st t M1 ht p => by
      obtain ⟨rfl, hs⟩ := p
      have hb := nw_b2 (S 65 43) t
      have hb2 := nw_b2 u t
      have hvt := hvb t
      refine ⟨M1, ⟨rfl, mk_pg1_s hs ht⟩, ?_⟩
      rw [F_Plans_placeFor_b9, x1.ts, if_neg (nI_ge ht (by omega)), mk_Xowns x1 hw (by omega)]
      simp only [mk_bs]
      rw [hnb t (Or.inr ht), nl_1, nl_31, nw_bit (by omega) (by omega), nI_add]
      simp only [mk_bs]
      unfold mk_pg1
      by_cases c : nw_b (S 65 43) t = 0
      · rw [if_pos c, c, if_pos (show nI 0 = (0 : Int32) from rfl)]
      · rw [if_neg c, if_neg (show ¬ nI (nw_b (S 65 43) t) = (0 : Int32) from nI_ne0 (by omega) (by omega))]
        by_cases d : nw_b u t = 0
        · rw [if_pos d, d, if_pos (show nI 0 = (0 : Int32) from rfl)]
          cases st with
          | none =>
            rw [if_neg (show ¬ nI (mk_va S A V h u t) ≤ mk_es none from (show ¬ nI (mk_va S A V h u t) ≤ -nI 1 by simp (disch := omega) only [nw_lem]; trivial)), mk_c2]
            rfl
          | some q =>
            have hq : q.2 ≤ 200 := by rw [hs.1]; exact hvb _
            rw [show mk_es (some q) = nI q.2 from rfl, mk_c2]
            simp (disch := omega) only [nw_le]
            split <;> rfl
        · rw [if_neg d, if_neg (show ¬ nI (nw_b u t) = (0 : Int32) from nI_ne0 (by omega) (by omega))])
    (S 48 26) 0 N none M (by omega) (by omega) ⟨rfl, trivial⟩
  obtain ⟨rfl, -⟩ := p
  exact q
end Places
