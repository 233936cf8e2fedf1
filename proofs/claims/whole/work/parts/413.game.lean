/-! ===== the pure side: ask, game, rests ===== -/
theorem nw_iabs {s : Int} (h : -1000 ≤ s) (h' : s ≤ 1000) : mj_abs (iI s) = nI s.natAbs := by
  unfold mj_abs
  have e0 : (0 : Int32) = iI 0 := rfl
  rw [e0]
  by_cases c : 0 ≤ s
  · rw [if_pos (by rw [iI_le (by omega) (by omega) (by omega) (by omega)]; exact c), iI_n]
    congr 1
    omega
  · rw [if_neg (by rw [iI_le (by omega) (by omega) (by omega) (by omega)]; exact c), iI_sub, iI_n]
    congr 1
    omega
theorem iI_m1 (s : Int) : iI s + -nI 1 = iI (s + -1) := by rw [show (-nI 1 : Int32) = iI (-1) by decide +kernel, iI_add]
theorem iI_m1' (s : Int) : iI s + -1 = iI (s + -1) := by rw [show (-1 : Int32) = iI (-1) by decide +kernel, iI_add]
theorem iI_p1 (s : Int) : iI s + nI 1 = iI (s + 1) := by rw [show (nI 1 : Int32) = iI 1 by decide +kernel, iI_add]
theorem iI_p1' (s : Int) : iI s + 1 = iI (s + 1) := by rw [show (1 : Int32) = iI 1 by decide +kernel, iI_add]
section Ask
variable {N : Nat} {S : mk_S} {A : mk_L}
def mk_ag (S : mk_S) (A : mk_L) (v h : Nat) : Nat → Int → Int := fun t s => if mk_fit S A t then (if mk_told S A h t < v then s + -1 else s + 1) else s
def mk_ap (S : mk_S) (A : mk_L) (v h : Nat) : Nat := (mk_fo (mk_ag S A v h) (S 48 26) 0 0).natAbs
theorem mk_fo_inv {σ : Type} {g : Nat → σ → σ} (I : Nat → σ → Prop) : ∀ d i s, (∀ j s, i ≤ j → j < i + d → I j s → I (j + 1) (g j s)) → I i s → I (i + d) (mk_fo g d i s) := by
  intro d
  induction d with
  | zero => intro i s _ h; exact h
  | succ d ih =>
    intro i s hg h
    rw [mk_fo, show i + (d + 1) = i + 1 + d by omega]
    exact ih (i + 1) _ (fun j s h1 h2 => hg j s (by omega) (by omega)) (hg i s (by omega) (by omega) h)
theorem mk_ap6 (hw : mk_W S A) (v h : Nat) : mk_ap S A v h ≤ 6 := by
  have t6 := hw.t6
  have := mk_fo_inv (g := mk_ag S A v h) (fun i s => -(i : Int) ≤ s ∧ s ≤ i) (S 48 26) 0 0 (fun j s _ _ hs => by
    unfold mk_ag
    split
    · split <;> omega
    · omega) (by omega)
  unfold mk_ap
  omega
theorem mk_Xap (hN : 1000 ≤ N) (hw : mk_W S A) {M : mj_M} (hX : mk_X S A M) {h v : Nat} (hh : h < S 48 25) (hv : v ≤ 20) : ∃ M', F_Guess_apartIn N (nI h) (nI v) (nI (mk_bits (mk_fit S A) (S 48 26))) M = some (nI (mk_ap S A v h), M') ∧ mk_X S A M' ∧ mk_fx M M' := by
  have t6 := hw.t6
  have h64 := mk_bits64 (mk_fit S A) (S 48 26) t6
  obtain ⟨M', p, q⟩ := mk_lp (L := fun n s i M => F_Guess_apartIn_b6 N n (nI h) (nI v) (nI (mk_bits (mk_fit S A) (S 48 26))) (iI s) (nI i) M) (S 48 26) (mk_ag S A v h) (fun i s M1 => mk_X S A M1 ∧ mk_fx M M1 ∧ -(i : Int) ≤ s ∧ s ≤ i) (fun s M => some (mj_abs (iI s), M))
    (fun n s M1 p => by rw [F_Guess_apartIn_b6, p.1.ts, if_pos (Int32.le_refl _)])
    (fun n s i M1 hi p => by
      obtain ⟨hX1, f1, hs⟩ := p
      have h20 := mk_told20 S A h i
      rw [F_Guess_apartIn_b6, hX1.ts, if_neg (nI_ge hi (by omega)), nl_1, nl_31, nw_bit (by omega) (by omega), mk_bits_b, nI_add]
      unfold mk_ag
      cases hf : mk_fit S A i with
      | false =>
        rw [if_neg (show ¬ (i < S 48 26 ∧ false = true) by simp), if_pos (show nI 0 = (0 : Int32) from rfl)]
        exact ⟨M1, ⟨hX1, f1, by simp; omega⟩, rfl⟩
      | true =>
        rw [if_pos (show i < S 48 26 ∧ true = true from ⟨hi, rfl⟩), if_neg (show ¬ nI 1 = (0 : Int32) by decide +kernel)]
        obtain ⟨M2, e2, f2⟩ := mk_Xtold hN hw hX1 hh hi
        obtain ⟨x2, g2⟩ := hX1.q f2
        rw [e2]
        simp only [Option.bind_some, mj_lt]
        simp (disch := omega) only [nw_lt]
        rw [iI_m1, iI_p1, if_pos trivial]
        refine ⟨M2, ⟨x2, f1.tr g2, by split <;> omega⟩, ?_⟩
        split <;> rfl)
    (S 48 26) 0 N 0 M (by omega) (by omega) ⟨hX, mk_fx.rf, by omega⟩
  refine ⟨M', ?_, p.1, p.2.1⟩
  unfold mk_ap
  rw [← nw_iabs (by omega) (by omega)]
  exact q
def mk_qg (f : Nat → Nat) : Nat → Option Nat → Option Nat := fun h s => match s with | none => some h | some b => if f b ≤ f h then some b else some h
def mk_e7 (k : Nat) (f : Nat → Nat) : Option Nat → Int32
  | none => nI k
  | some t => nI (f t)
theorem mk_Xask (hN : 1000 ≤ N) (hw : mk_W S A) {M : mj_M} (hX : mk_X S A M) {v : Nat} (hv : v ≤ 20) (hb : ¬ mk_bits (mk_fit S A) (S 48 26) = 0) : ∃ M', F_Guess_houseToAsk N (nI v) (nI (mk_bits (mk_fit S A) (S 48 26))) M = some (mk_e1 (mk_fo (mk_qg (mk_ap S A v)) (S 48 25) 0 none), M') ∧ mk_X S A M' ∧ mk_fx M M' := by
  have h6 := hw.h6
  have h64 := mk_bits64 (mk_fit S A) (S 48 26) hw.t6
  obtain ⟨M', p, q⟩ := mk_lp (L := fun n s i M => F_Guess_houseToAsk_b9 N n (nI v) (nI (mk_bits (mk_fit S A) (S 48 26))) (mk_e1 s) (mk_e7 7 (mk_ap S A v) s) (nI i) M) (S 48 25) (mk_qg (mk_ap S A v)) (fun i s M1 => mk_X S A M1 ∧ mk_fx M M1) (fun s M => some (mk_e1 s, M))
    (fun n s M1 p => by rw [F_Guess_houseToAsk_b9, p.1.hs, if_pos (Int32.le_refl _)])
    (fun n s i M1 hi p => by
      obtain ⟨hX1, f1⟩ := p
      obtain ⟨M2, e2, x2, f2⟩ := mk_Xap hN hw hX1 hi hv
      have a6 := mk_ap6 hw v i
      rw [F_Guess_houseToAsk_b9, hX1.hs, if_neg (nI_ge hi (by omega)), if_neg (show ¬ nI (mk_bits (mk_fit S A) (S 48 26)) = (0 : Int32) by rw [nl_0, nw_eq (by omega) (by omega)]; exact hb), e2]
      simp only [Option.bind_some]
      rw [nI_1]
      refine ⟨M2, ⟨x2, f1.tr f2⟩, ?_⟩
      cases s with
      | none =>
        rw [if_neg (show ¬ mk_e7 7 (mk_ap S A v) none ≤ nI (mk_ap S A v i) from nI_ge (b := 7) (by omega) (by omega))]
        rfl
      | some b =>
        have b6 := mk_ap6 hw v b
        show (if nI (mk_ap S A v b) ≤ nI (mk_ap S A v i) then _ else _) = _
        simp (disch := omega) only [nw_le]
        unfold mk_qg
        dsimp only
        split <;> rfl)
    (S 48 25) 0 N none M (by omega) (by omega) ⟨hX, mk_fx.rf⟩
  exact ⟨M', q, p⟩
theorem mk_Mask1 (hN : 1000 ≤ N) (hw : mk_W S A) {M : mj_M} (hM : mk_M S A M) {h v : Nat} (hh : h < S 48 25) (hv : v ≤ 20) (k : Int32 → Int32 → Int32 → Int32 → mj_M → Option (Int32 × mj_M)) (a2 a3 : Int32) : ∃ M', F_M_ask_b50 N k N (nI v) a2 a3 (nI h) 0 0 M = (if a2 = -1 then k (nI v) (nI h) (nI (mk_ap S A v h)) (nI (h + 1)) M' else if a3 ≤ nI (mk_ap S A v h) then k (nI v) a2 a3 (nI (h + 1)) M' else k (nI v) (nI h) (nI (mk_ap S A v h)) (nI (h + 1)) M') ∧ mk_M S A M' ∧ mk_fm M M' := by
  have t6 := hw.t6
  obtain ⟨M', p, q⟩ := mk_lp (L := fun n s i M => F_M_ask_b50 N k n (nI v) a2 a3 (nI h) (iI s) (nI i) M) (S 48 26) (mk_ag S A v h) (fun i s M1 => mk_M S A M1 ∧ mk_fm M M1 ∧ -(i : Int) ≤ s ∧ s ≤ i) (fun s M => if a2 = -1 then k (nI v) (nI h) (mj_abs (iI s)) (nI (h + 1)) M else if a3 ≤ mj_abs (iI s) then k (nI v) a2 a3 (nI (h + 1)) M else k (nI v) (nI h) (mj_abs (iI s)) (nI (h + 1)) M)
    (fun n s M1 p => by
      rw [F_M_ask_b50, p.1.ts, if_pos (Int32.le_refl _)]
      unfold F_M_ask_b114
      rw [nI_1]
      rfl)
    (fun n s i M1 hi p => by
      obtain ⟨hX1, f1, hs⟩ := p
      have h20 := mk_told20 S A h i
      obtain ⟨M2, e2, x2, f2⟩ := mk_Mfit hN hw hX1 hi
      rw [F_M_ask_b50, hX1.ts, if_neg (nI_ge hi (by omega)), e2]
      simp only [Option.bind_some, mk_bi0, mj_lt]
      unfold mk_ag
      cases hf : mk_fit S A i with
      | false =>
        rw [if_pos (show false = false from rfl), show iI s + 0 = iI (s + 0) from iI_add s 0, Int.add_zero, nI_1]
        exact ⟨M2, ⟨x2, f1.tr f2, by simp; omega⟩, rfl⟩
      | true =>
        rw [if_neg (show ¬ true = false by simp)]
        obtain ⟨M3, e3, x3, f3⟩ := mk_Mtold hN hw x2 hh hi
        rw [e3]
        simp only [Option.bind_some]
        simp (disch := omega) only [nw_lt]
        rw [iI_m1', iI_p1', if_pos trivial, nI_1]
        refine ⟨M3, ⟨x3, (f1.tr f2).tr f3, by split <;> omega⟩, ?_⟩
        split <;> rfl)
    (S 48 26) 0 N 0 M (by omega) (by omega) ⟨hM, mk_fm.rf, by omega⟩
  refine ⟨M', ?_, p.1, p.2.1⟩
  unfold mk_ap
  rw [← nw_iabs (by omega) (by omega)]
  exact q
theorem mk_Mask (hN : 1000 ≤ N) (hw : mk_W S A) {M : mj_M} (hM : mk_M S A M) {v : Nat} (hv : v ≤ 20) : ∃ M', F_M_ask_b35 N N (nI v) (-1) 0 0 M = some (mk_e1 (mk_fo (mk_qg (mk_ap S A v)) (S 48 25) 0 none), M') ∧ mk_M S A M' ∧ mk_fm M M' := by
  have h6 := hw.h6
  obtain ⟨M', p, q⟩ := mk_lp (L := fun n s i M => F_M_ask_b35 N n (nI v) (mk_e1 s) (mk_e7 0 (mk_ap S A v) s) (nI i) M) (S 48 25) (mk_qg (mk_ap S A v)) (fun i s M1 => mk_M S A M1 ∧ mk_fm M M1 ∧ mk_ol (S 48 25) s) (fun s M => some (mk_e1 s, M))
    (fun n s M1 p => by rw [F_M_ask_b35, p.1.hs, if_pos (Int32.le_refl _)])
    (fun n s i M1 hi p => by
      obtain ⟨hX1, f1, hs⟩ := p
      obtain ⟨M2, e2, x2, f2⟩ := mk_Mask1 hN hw hX1 hi hv (F_M_ask_b35 N n) (mk_e1 s) (mk_e7 0 (mk_ap S A v) s)
      have a6 := mk_ap6 hw v i
      rw [F_M_ask_b35, hX1.hs, if_neg (nI_ge hi (by omega)), e2]
      cases s with
      | none => exact ⟨M2, ⟨x2, f1.tr f2, hi⟩, by rw [if_pos (show mk_e1 none = -1 from rfl)]; rfl⟩
      | some b =>
        have b6 := mk_ap6 hw v b
        have hb : b < S 48 25 := hs
        rw [if_neg (show ¬ mk_e1 (some b) = (-1 : Int32) from (show ¬ nI b = -nI 1 by simp (disch := omega) only [nw_eqm]; trivial))]
        refine ⟨M2, ⟨x2, f1.tr f2, ?_⟩, ?_⟩
        · unfold mk_qg
          dsimp only
          split
          · exact hb
          · exact hi
        · show (if nI (mk_ap S A v b) ≤ nI (mk_ap S A v i) then _ else _) = _
          simp (disch := omega) only [nw_le]
          unfold mk_qg
          dsimp only
          split <;> rfl)
    (S 48 25) 0 N none M (by omega) (by omega) ⟨hM, mk_fm.rf, trivial⟩
  exact ⟨M', q, p.1, p.2.1⟩
theorem mk_fe_0 (p : Nat → Bool) : ∀ d i, (mk_fe (mk_ng1 p 0) d i 0 = .inl 0 ∧ ∀ t, i ≤ t → t < i + d → p t = false) ∨ ∃ t, mk_fe (mk_ng1 p 0) d i 0 = .inr t ∧ t < i + d ∧ p t = true := by
  intro d
  induction d with
  | zero => intro i; exact Or.inl ⟨rfl, fun t h1 h2 => by omega⟩
  | succ d ih =>
    intro i
    rw [mk_fe]
    unfold mk_ng1
    by_cases c : p i = true
    · rw [if_pos c, if_pos (show nI 0 = (0 : Int32) from rfl)]
      exact Or.inr ⟨i, rfl, by omega, c⟩
    · rw [if_neg c]
      have c' : p i = false := by cases h : p i <;> simp_all
      rcases ih (i + 1) with ⟨h1, h2⟩ | ⟨t, h1, h2, h3⟩
      · refine Or.inl ⟨h1, fun t h3 h4 => ?_⟩
        by_cases e : t = i
        · rw [e]; exact c'
        · exact h2 t (by omega) (by omega)
      · exact Or.inr ⟨t, h1, by omega, h3⟩
theorem mk_bits0 {p : Nat → Bool} : ∀ n, (∀ t, t < n → p t = false) → mk_bits p n = 0
  | 0, _ => rfl
  | n + 1, h => by rw [mk_bits, h n (by omega), mk_bits0 n (fun t ht => h t (by omega))]; rfl
theorem mk_bits1 {p : Nat → Bool} {n t : Nat} (h : t < n) (hp : p t = true) : ¬ mk_bits p n = 0 := by
  intro e
  have := mk_bits_b p n t
  rw [e, if_pos ⟨h, hp⟩] at this
  unfold nw_b at this
  simp at this
end Ask
theorem op_26 {N : Nat} (hN : 1000 ≤ N) : mo_26 N mk_I := by
  intro M ⟨S, A, hw, hX, hM⟩ a
  have h6 := hw.h6
  have t6 := hw.t6
  by_cases c : S 48 25 = 0
  · refine mk_fin (r := -1) hw hX hM (mk_QX.same fun M hX => ?_) (mk_QM.same fun M hM => ?_)
    · unfold F_W_ask; rw [mk_Xtold0 hX c]; rfl
    · unfold F_M_ask; rw [if_pos (mk_H0 hM c)]
  rcases mk_ix a (n := 21) (by omega) with h' | ⟨v, hv, rfl⟩
  · refine mk_fin (r := -1) hw hX hM (mk_QX.same fun M hX => ?_) (mk_QM.same fun M hM => ?_)
    · unfold F_W_ask; rw [mk_Xtold1 hX hw (by omega)]
      simp only [Option.bind_some]
      rw [if_neg (by decide +kernel)]
      by_cases c : a < 0
      · rw [if_pos c]
      · rw [if_neg c, nl_20, if_pos (nw_gt (h'.resolve_left c) (by omega)).1]
    · unfold F_M_ask; rw [if_neg (mk_H1 hM hw c), nl_0, nl_20, mk_Mino h' (by omega)]; rfl
  have hx : ∀ r, (∀ M, mk_X S A M → ∃ M', F_Guess_houseToAsk N (nI v) (nI (mk_bits (mk_fit S A) (S 48 26))) M = some (r, M') ∧ mk_X S A M' ∧ mk_fx M M') → mk_QX S S A A (F_W_ask N (nI v)) r := by
    intro r h M hX
    obtain ⟨M1, e1, x1, f1⟩ := mk_Xfits hN hw hX
    obtain ⟨M2, e2, x2, f2⟩ := h M1 x1
    refine ⟨M2, ?_, x2, f1.tr f2⟩
    unfold F_W_ask
    rw [mk_Xtold1 hX hw (by omega)]
    simp only [Option.bind_some]
    rw [if_neg (by decide +kernel), if_neg (nI_pos (by omega)), nl_20, if_neg (nI_nlt (by omega) (by omega)), e1]
    simp only [Option.bind_some]
    rw [e2]
    rfl
  have hm : ∀ M, mk_M S A M → ∃ M1, F_M_told N 0 M = some (match mk_fe (mk_ng1 (mk_fit S A) 0) (S 48 26) 0 0 with | .inl k => -1 | .inr t => nI t, M1) ∧ mk_M S A M1 ∧ mk_fm M M1 := by
    intro M hM
    obtain ⟨M1, e1, x1⟩ := mk_Mtolds hN hw hM 0
    refine ⟨M1, ?_, x1⟩
    unfold F_M_told
    rw [if_neg (mk_H1 hM hw c), if_pos (show (-1 : Int32) ≤ 0 by decide +kernel)]
    refine e1.trans ?_
    cases mk_fe (mk_ng1 (mk_fit S A) 0) (S 48 26) 0 0 with
    | inl k => show some (if (0 : Int32) = -1 then _ else _, M1) = _; rw [if_neg (by decide +kernel)]
    | inr t => rfl
  rcases mk_fe_0 (mk_fit S A) (S 48 26) 0 with ⟨h1, h2⟩ | ⟨t, h1, h2, h3⟩
  · have hb : mk_bits (mk_fit S A) (S 48 26) = 0 := mk_bits0 _ (fun t ht => h2 t (by omega) (by omega))
    refine mk_fin (r := -1) hw hX hM (hx _ fun M hX => ⟨M, ?_, hX, mk_fx.rf⟩) (fun M hM => ?_)
    · unfold F_Guess_houseToAsk
      obtain ⟨n, rfl⟩ : ∃ k, N = k + 1 := ⟨N - 1, by omega⟩
      rw [F_Guess_houseToAsk_b9, hb, hX.hs, if_neg (show ¬ nI (S 48 25) ≤ (0 : Int32) from nI_ge (a := 0) (by omega) (by omega)), if_pos (show nI 0 = (0 : Int32) from rfl)]
    · obtain ⟨M1, e1, x1⟩ := hm M hM
      rw [h1] at e1
      refine ⟨M1, ?_, x1⟩
      unfold F_M_ask
      rw [if_neg (mk_H1 hM hw c), show F_M_in (nI v) 0 20 M = some (nI 1, M) from mk_Mini (n := 20) (by omega) (by omega)]
      simp only [Option.bind_some]
      rw [if_neg (show ¬ nI 1 = (0 : Int32) by decide +kernel), e1]
      rfl
  · have hb := mk_bits1 (p := mk_fit S A) (n := S 48 26) (t := t) (by omega) h3
    refine mk_fin (r := mk_e1 (mk_fo (mk_qg (mk_ap S A v)) (S 48 25) 0 none)) hw hX hM (hx _ fun M hX => mk_Xask hN hw hX (by omega) hb) (fun M hM => ?_)
    obtain ⟨M1, e1, x1, f1⟩ := hm M hM
    rw [h1] at e1
    obtain ⟨M2, e2, x2, f2⟩ := mk_Mask hN hw x1 (show v ≤ 20 by omega)
    refine ⟨M2, ?_, x2, f1.tr f2⟩
    unfold F_M_ask
    rw [if_neg (mk_H1 hM hw c), show F_M_in (nI v) 0 20 M = some (nI 1, M) from mk_Mini (n := 20) (by omega) (by omega)]
    simp only [Option.bind_some]
    rw [if_neg (show ¬ nI 1 = (0 : Int32) by decide +kernel), e1]
    simp only [Option.bind_some]
    rw [if_neg (show ¬ nI t = (-1 : Int32) from (show ¬ nI t = -nI 1 by simp (disch := omega) only [nw_eqm]; trivial)), e2]
