/-! ===== the pure side: game, rests ===== -/
section Game
variable {N : Nat} {S : mk_S} {A : mk_L}
def mk_s1 (S : mk_S) (A : mk_L) (h t : Nat) : Nat := if t < S 48 26 then mk_now S A h t else 0
def mk_s2 (S : mk_S) (A : mk_L) (h t : Nat) : Nat := if t < S 48 26 then mk_once S A h t else 0
def mk_se (S : mk_S) (A : mk_L) (h x y : Nat) : Nat := if x = y then mk_s2 S A h y else mk_s1 S A h y
def mk_hv (T t own other : Nat) : Int32 := nI own - (if other ≤ own then nI 0 else nI 3) - (if t < T then nI 0 else nI 5)
def mk_g0 (S : mk_S) (A : mk_L) (h x y : Nat) : Int32 := mk_hv (S 48 26) x (mk_s1 S A h x) (mk_se S A h x y)
def mk_g1 (S : mk_S) (A : mk_L) (h x y : Nat) : Int32 := mk_hv (S 48 26) y (mk_se S A h x y) (mk_s1 S A h x)
theorem mk_s1b (S : mk_S) (A : mk_L) (h t : Nat) : mk_s1 S A h t ≤ 20 := by unfold mk_s1; split; exact mk_by20 ..; omega
theorem mk_s2b (S : mk_S) (A : mk_L) (h t : Nat) : mk_s2 S A h t ≤ 20 := by unfold mk_s2; split; exact mk_by20 ..; omega
theorem mk_seb (S : mk_S) (A : mk_L) (h x y : Nat) : mk_se S A h x y ≤ 20 := by unfold mk_se; split; exact mk_s2b ..; exact mk_s1b ..
/-- the duel's two rows are filled for a house -/
def mk_du2 (S : mk_S) (A : mk_L) (h n : Nat) (M : mj_M) : Prop := ∀ t, t < n → M 39 t = nI (mk_s1 S A h t) ∧ M 40 t = nI (mk_s2 S A h t)
def mk_fd (M M' : mj_M) : Prop := ∀ c, c ≠ 9 → c ≠ 12 → c ≠ 39 → c ≠ 40 → M' c = M c
theorem mk_fd.X {M M' : mj_M} (f : mk_fd M M') (hX : mk_X S A M) : mk_X S A M' ∧ mk_fx M M' :=
  ⟨hX.sc fun c hc => f c (by unfold mk_sx at hc; omega) (by unfold mk_sx at hc; omega) (by unfold mk_sx at hc; omega) (by unfold mk_sx at hc; omega), fun c hc => f c (by omega) (by omega) (by omega) (by omega)⟩
theorem mk_Xstand (hN : 1000 ≤ N) (hw : mk_W S A) {M : mj_M} (hX : mk_X S A M) {h : Nat} (hh : h < S 48 25) : ∃ M', F_Duel_standIn N (nI h) M = some M' ∧ mk_fd M M' ∧ mk_du2 S A h 6 M' := by
  have t6 := hw.t6
  obtain ⟨M', p, q⟩ := mk_lp (L := fun n (_ : Unit) i M => F_Duel_standIn_b2 N n (nI h) (nI i) M) 6 (fun _ s => s) (fun i _ M1 => mk_fd M M1 ∧ mk_du2 S A h i M1) (fun _ M => some M)
    (fun n s M1 p => by rw [F_Duel_standIn_b2, nl_6, if_pos (Int32.le_refl _)])
    (fun n s i M1 hi p => by
      obtain ⟨f1, d1⟩ := p
      have hX1 := (f1.X hX).1
      rw [F_Duel_standIn_b2, nl_6, if_neg (nI_ge hi (by omega))]
      have fin : ∀ (M2 : mj_M) (a b : Nat), mk_fd M M2 → mk_du2 S A h i M2 → mk_s1 S A h i = a → mk_s2 S A h i = b → mk_fd M (mj_u (mj_u M2 39 i (nI a)) 40 i (nI b)) ∧ mk_du2 S A h (i + 1) (mj_u (mj_u M2 39 i (nI a)) 40 i (nI b)) := by
        intro M2 a b f d ea eb
        refine ⟨fun c h1 h2 h3 h4 => by rw [nw_u9 _ h4, nw_u9 _ h3]; exact f c h1 h2 h3 h4, fun t ht => ?_⟩
        rw [nw_u9 (c' := 39) _ (by omega), mj_u_eq, mj_u_eq, nw_u9 (c' := 40) _ (by omega)]
        by_cases e : t = i
        · rw [e, mj_up_eq, mj_up_eq, ea, eb]; exact ⟨rfl, rfl⟩
        · rw [mj_up_ne _ _ _ e, mj_up_ne _ _ _ e]; exact d t (by omega)
      by_cases c : i < S 48 26
      · rw [mk_Xt1 hX1 hw c]
        simp only [Option.bind_some]
        rw [if_neg (by decide +kernel)]
        obtain ⟨M2, e2, f2⟩ := mk_Xnow hN hw hX1 hh c
        rw [e2]
        simp only [Option.bind_some]
        have F2 : mk_fd M M2 := fun c h1 h2 h3 h4 => (f2 c h1 h2).trans (f1 c h1 h2 h3 h4)
        have D2 : mk_du2 S A h i M2 := fun t ht => by rw [f2 39 (by omega) (by omega), f2 40 (by omega) (by omega)]; exact d1 t ht
        unfold F_Duel_standIn_b39
        simp only [mj_lt]
        rw [nw_ck (by omega) (by omega), nI_clamp (by omega), if_neg (by decide +kernel)]
        have F3 : mk_fd M (mj_u M2 39 i (nI (mk_now S A h i))) := fun c h1 h2 h3 h4 => by rw [nw_u9 _ h3]; exact F2 c h1 h2 h3 h4
        obtain ⟨M3, e3, f3⟩ := mk_Xonce hN hw (F3.X hX).1 hh c
        rw [e3]
        simp only [Option.bind_some]
        rw [nw_ck (by omega) (by omega), nI_1]
        refine ⟨_, ?_, rfl⟩
        refine ⟨fun c h1 h2 h3 h4 => by rw [nw_u9 _ h4, f3 c h1 h2]; exact F3 c h1 h2 h3 h4, fun t ht => ?_⟩
        rw [nw_u9 (c' := 39) _ (by omega), mj_u_eq, f3 39 (by omega) (by omega), f3 40 (by omega) (by omega), mj_u_eq, nw_u9 (c' := 40) _ (by omega)]
        by_cases e : t = i
        · rw [e, mj_up_eq, mj_up_eq]
          unfold mk_s1 mk_s2
          rw [if_pos c, if_pos c]; exact ⟨rfl, rfl⟩
        · rw [mj_up_ne _ _ _ e, mj_up_ne _ _ _ e]; exact D2 t (by omega)
      · rw [mk_Xt0 hX1 (Or.inr (nI_le (by omega) (by omega)))]
        simp only [Option.bind_some]
        rw [if_pos trivial]
        unfold F_Duel_standIn_b39
        simp only [mj_lt]
        rw [nw_ck (by omega) (by omega), nI_clamp (by omega), if_pos trivial, nw_ck (by omega) (by omega), nI_1]
        exact ⟨_, fin M1 0 0 f1 d1 (by unfold mk_s1; rw [if_neg c]) (by unfold mk_s2; rw [if_neg c]), rfl⟩)
    6 0 N () M (by omega) (by omega) ⟨fun _ _ _ _ _ => rfl, fun t ht => by omega⟩
  exact ⟨M', q, p⟩
theorem mk_Xhas (hw : mk_W S A) {M : mj_M} (hX : mk_X S A M) {t own other : Nat} (ht : t < 6) (h1 : own ≤ 20) (h2 : other ≤ 20) : F_Duel_has (nI t) (nI own) (nI other) M = some (mk_hv (S 48 26) t own other, M) := by
  have t6 := hw.t6
  have e : ∀ l : Nat, F_Duel_has_b10 (nI t) (nI own) (nI l) M = some (nI own - nI l - (if t < S 48 26 then nI 0 else nI 5), M) := by
    intro l
    unfold F_Duel_has_b10
    by_cases c : t < S 48 26
    · rw [mk_Xt1 hX hw c, if_pos c]; rfl
    · rw [mk_Xt0 hX (Or.inr (nI_le (by omega) (by omega))), if_neg c]; rfl
  unfold F_Duel_has mk_hv
  simp (disch := omega) only [nw_le]
  rw [nl_0, nl_3, e, e]
  split <;> rfl
theorem mk_Xsec {M : mj_M} {h : Nat} (hd : mk_du2 S A h 6 M) {x y : Nat} (hx : x < 6) (hy : y < 6) : F_Duel_secondStay (nI x) (nI y) M = some (nI (mk_se S A h x y), M) := by
  unfold F_Duel_secondStay mk_se
  simp (disch := omega) only [nw_eq, nw_ck, nI_clamp]
  rw [(hd y hy).1, (hd y hy).2]
  split <;> rfl
theorem mk_Xfirst (hw : mk_W S A) {M : mj_M} (hX : mk_X S A M) {h : Nat} (hd : mk_du2 S A h 6 M) {x y : Nat} (hx : x < 6) (hy : y < 6) : F_Duel_firstHas (nI x) (nI y) M = some (mk_g0 S A h x y, M) := by
  unfold F_Duel_firstHas
  rw [nw_ck (by omega) (by omega), mk_Xsec hd hx hy]
  simp only [Option.bind_some]
  rw [nI_clamp (by omega), (hd x hx).1, mk_Xhas hw hX hx (mk_s1b ..) (mk_seb ..)]
  rfl
theorem mk_Xsecond (hw : mk_W S A) {M : mj_M} (hX : mk_X S A M) {h : Nat} (hd : mk_du2 S A h 6 M) {x y : Nat} (hx : x < 6) (hy : y < 6) : F_Duel_secondHas (nI x) (nI y) M = some (mk_g1 S A h x y, M) := by
  unfold F_Duel_secondHas
  rw [mk_Xsec hd hx hy]
  simp only [Option.bind_some]
  rw [nw_ck (by omega) (by omega), nI_clamp (by omega), (hd x hx).1, mk_Xhas hw hX hy (mk_seb ..) (mk_s1b ..)]
  rfl
def mk_gw (S : mk_S) (A : mk_L) (h x y w : Nat) : Int32 := if w = 0 then mk_g0 S A h x y else mk_g1 S A h x y
theorem mk_Mtl (hw : mk_W S A) {M : mj_M} (hM : mk_M S A M) {t : Nat} (ht : t < 6) : F_M_isTale (nI t) M = some (if t < S 48 26 then 1 else 0, M) := by
  by_cases c : t < S 48 26
  · rw [mk_Mt1 hM hw c, if_pos c]
  · rw [mk_Mt0 hM hw (Or.inr (nI_le (by omega) (by omega))), if_neg c]
theorem mk_Mgame (hN : 1000 ≤ N) (hw : mk_W S A) {M : mj_M} (hM : mk_M S A M) {h x y w : Nat} (hh : h < S 48 25) (hx : x < 6) (hy : y < 6) (h2 : w < 2) : ∃ M', F_M_gameOf N (nI h) (nI x) (nI y) (nI w) M = some (mk_gw S A h x y w, M') ∧ mk_M S A M' ∧ mk_fm M M' := by
  have t6 := hw.t6
  have h6 := hw.h6
  have b1 := mk_s1b S A h x
  have b2 := mk_seb S A h x y
  have E69 : ∀ M1, mk_M S A M1 → F_M_gameOf_b69 N (nI x) (nI y) (nI w) (nI (mk_s1 S A h x)) (nI (mk_se S A h x y)) M1 = some (mk_gw S A h x y w, M1) := by
    intro M1 hM1
    have e125 : ∀ (s0 : Int32) (t : Nat), t < 6 → F_M_gameOf_b125 N s0 (nI t) M1 = some (s0 - (if t < S 48 26 then nI 0 else nI 5), M1) := by
      intro s0 t ht
      unfold F_M_gameOf_b125
      rw [mk_Mtl hw hM1 ht]
      simp only [Option.bind_some]
      by_cases c : t < S 48 26
      · rw [if_pos c, if_neg (by decide +kernel), if_pos c]; rfl
      · rw [if_neg c, if_pos rfl, if_neg c]; rfl
    unfold F_M_gameOf_b69 F_M_gameOf_b83 F_M_gameOf_b97 F_M_gameOf_b113 mk_gw mk_g0 mk_g1 mk_hv
    rw [nl_0, nl_3]
    simp (disch := omega) only [nw_eq, nw_le, e125]
    by_cases c : w = 0
    · simp only [if_pos c]
      split <;> rfl
    · simp only [if_neg c]
      split <;> rfl
  have E18 : ∀ M1, mk_M S A M1 → ∃ M', F_M_gameOf_b18 N (nI h) (nI x) (nI y) (nI w) (nI (mk_s1 S A h x)) M1 = some (mk_gw S A h x y w, M') ∧ mk_M S A M' ∧ mk_fm M1 M' := by
    intro M1 hM1
    unfold F_M_gameOf_b18
    rw [mk_Mtl hw hM1 hy]
    simp only [Option.bind_some]
    by_cases c : y < S 48 26
    · have h99 := hw.now.heard (h * 6 + y) (by omega)
      rw [if_pos c, if_neg (by decide +kernel), nl_36, nI_add, nw_ck (by omega) (by omega), nI_clamp (by omega), mk_Mheard hw hM1 hh c, hM1.now _ (by omega)]
      simp only [Option.bind_some]
      have e62 : ∀ z, z ≤ 1 → ∃ M', F_M_gameOf_b62 N (nI x) (nI y) (nI w) (nI (mk_s1 S A h x)) (nI h) (nI y) (nI (S 65 (36 + y))) 99 (nI (S 65 (h * 6 + y))) (nI z) M1 = F_M_gameOf_b69 N (nI x) (nI y) (nI w) (nI (mk_s1 S A h x)) (nI (mk_by S A h y (min 99 (S 65 (h * 6 + y) + z)) (S 65 (36 + y)))) M' ∧ mk_M S A M' ∧ mk_fm M1 M' := by
        intro z hz
        obtain ⟨M2, e2, f2⟩ := mk_Mby hN hw hM1 hh c (show min 99 (S 65 (h * 6 + y) + z) ≤ 99 by omega) (hw.now.knots y c)
        refine ⟨M2, ?_, hM1.q f2⟩
        unfold F_M_gameOf_b62
        rw [nI_add, nl_99, nw_min (by omega) (by omega), e2]
        rfl
      simp (disch := omega) only [nw_eq]
      by_cases d : x = y
      · rw [if_pos d]
        obtain ⟨M2, e2, x2⟩ := e62 1 (by omega)
        refine ⟨M2, ?_, x2⟩
        rw [nl_1, e2]
        have : mk_by S A h y (min 99 (S 65 (h * 6 + y) + 1)) (S 65 (36 + y)) = mk_se S A h x y := by
          unfold mk_se mk_s2 mk_once
          rw [if_pos d, if_pos c, Nat.min_comm]
        rw [this]
        exact E69 M2 x2.1
      · rw [if_neg d]
        obtain ⟨M2, e2, x2⟩ := e62 0 (by omega)
        refine ⟨M2, ?_, x2⟩
        rw [nl_0, e2]
        have : mk_by S A h y (min 99 (S 65 (h * 6 + y) + 0)) (S 65 (36 + y)) = mk_se S A h x y := by
          unfold mk_se mk_s1 mk_now
          rw [if_neg d, if_pos c, Nat.min_eq_right (by omega)]
          rfl
        rw [this]
        exact E69 M2 x2.1
    · rw [if_neg c, if_pos rfl]
      refine ⟨M1, ?_, hM1, mk_fm.rf⟩
      have := E69 M1 hM1
      have e : mk_se S A h x y = 0 := by
        unfold mk_se mk_s1 mk_s2
        rw [if_neg c, if_neg c]
        split <;> rfl
      rw [e] at this
      exact this
  unfold F_M_gameOf
  rw [mk_Mtl hw hM hx]
  simp only [Option.bind_some]
  by_cases c : x < S 48 26
  · rw [if_pos c, if_neg (by decide +kernel)]
    obtain ⟨M1, e1, x1, f1⟩ := mk_Mnow' hN hw hM hh c
    rw [e1]
    simp only [Option.bind_some]
    obtain ⟨M2, e2, x2, f2⟩ := E18 M1 x1
    refine ⟨M2, ?_, x2, f1.tr f2⟩
    have e : mk_s1 S A h x = mk_now S A h x := by unfold mk_s1; rw [if_pos c]
    rw [e] at e2
    exact e2
  · rw [if_neg c, if_pos rfl]
    obtain ⟨M2, e2, x2⟩ := E18 M hM
    refine ⟨M2, ?_, x2⟩
    have e : mk_s1 S A h x = 0 := by unfold mk_s1; rw [if_neg c]
    rw [e] at e2
    exact e2
/-- two tales at which both rest -/
def mk_rg (S : mk_S) (A : mk_L) (h x y : Nat) : Nat → Unit → Unit ⊕ Unit := fun k _ => if mk_g0 S A h x y < mk_g0 S A h k y then .inr () else if mk_g1 S A h x k ≤ mk_g1 S A h x y then .inl () else .inr ()
def mk_qu (S : mk_S) (A : mk_L) (h x y : Nat) : Bool := match mk_fe (mk_rg S A h x y) (S 48 26) 0 () with | .inl _ => true | .inr _ => false
theorem mk_Xqu (hN : 1000 ≤ N) (hw : mk_W S A) {M : mj_M} (hX : mk_X S A M) {h : Nat} (hd : mk_du2 S A h 6 M) {x y : Nat} (hx : x < S 48 26) (hy : y < S 48 26) : F_Duel_isQuiet N (nI x) (nI y) M = some (nI (mk_bi (mk_qu S A h x y)), M) := by
  have t6 := hw.t6
  obtain ⟨M', hh⟩ := mk_lpe (L := fun n (_ : Unit) i M => F_Duel_isQuiet_b18 N n (nI x) (nI y) (mk_g0 S A h x y) (mk_g1 S A h x y) (nI i) M) (S 48 26) (mk_rg S A h x y) (fun _ _ M1 => M1 = M) (fun M1 => M1 = M) (fun _ M => some (nI 1, M)) (fun _ M => some (nI 0, M))
    (fun n s M1 p => by subst p; rw [F_Duel_isQuiet_b18, hX.ts, if_pos (Int32.le_refl _)]; rfl)
    (fun n s i M1 hi p => by
      subst p
      refine ⟨M1, ?_⟩
      rw [F_Duel_isQuiet_b18, hX.ts, if_neg (nI_ge hi (by omega)), mk_Xfirst hw hX hd (by omega) (by omega)]
      simp only [Option.bind_some]
      rw [mk_Xsecond hw hX hd (by omega) (by omega)]
      simp only [Option.bind_some]
      rw [nI_1]
      unfold mk_rg
      by_cases c : mk_g0 S A h x y < mk_g0 S A h i y
      · exact Or.inr ⟨(), by rw [if_pos c], by trivial, by rw [if_pos c]; rfl⟩
      · by_cases d : mk_g1 S A h x i ≤ mk_g1 S A h x y
        · exact Or.inl ⟨(), by rw [if_neg c, if_pos d], by trivial, by rw [if_neg c, if_pos d]⟩
        · exact Or.inr ⟨(), by rw [if_neg c, if_neg d], by trivial, by rw [if_neg c, if_neg d]; rfl⟩)
    (S 48 26) 0 N () M (by omega) (by omega) rfl
  unfold F_Duel_isQuiet
  rw [mk_Xfirst hw hX hd (by omega) (by omega)]
  simp only [Option.bind_some]
  rw [mk_Xsecond hw hX hd (by omega) (by omega)]
  simp only [Option.bind_some]
  unfold mk_qu
  rcases hh with ⟨s, g, p, e⟩ | ⟨r, g, p, e⟩
  · subst p; rw [g]; exact e
  · subst p; rw [g]; exact e
theorem mk_Mqu (hN : 1000 ≤ N) (hw : mk_W S A) {M : mj_M} (hM : mk_M S A M) {h x y : Nat} (hh : h < S 48 25) (hx : x < S 48 26) (hy : y < S 48 26) : ∃ M', F_M_isRest N (nI h) (nI x) (nI y) M = some (nI (mk_bi (mk_qu S A h x y)), M') ∧ mk_M S A M' ∧ mk_fm M M' := by
  have t6 := hw.t6
  obtain ⟨M', hl⟩ := mk_lpe (L := fun n (_ : Unit) i M => F_M_isRest_b3 N n (nI h) (nI x) (nI y) (nI i) M) (S 48 26) (mk_rg S A h x y) (fun _ _ M1 => mk_M S A M1 ∧ mk_fm M M1) (fun M1 => mk_M S A M1 ∧ mk_fm M M1) (fun _ M => some (nI 1, M)) (fun _ M => some (nI 0, M))
    (fun n s M1 p => by rw [F_M_isRest_b3, p.1.ts, if_pos (Int32.le_refl _)]; rfl)
    (fun n s i M1 hi p => by
      obtain ⟨p1, f1⟩ := p
      obtain ⟨M2, e2, x2, f2⟩ := mk_Mgame hN hw p1 (x := i) (y := y) (w := 0) hh (by omega) (by omega) (by omega)
      obtain ⟨M3, e3, x3, f3⟩ := mk_Mgame hN hw x2 (x := x) (y := y) (w := 0) hh (by omega) (by omega) (by omega)
      obtain ⟨M4, e4, x4, f4⟩ := mk_Mgame hN hw x3 (x := x) (y := i) (w := 1) hh (by omega) (by omega) (by omega)
      obtain ⟨M5, e5, x5, f5⟩ := mk_Mgame hN hw x4 (x := x) (y := y) (w := 1) hh (by omega) (by omega) (by omega)
      rw [F_M_isRest_b3, p1.ts, if_neg (nI_ge hi (by omega)), nl_0, e2]
      simp only [Option.bind_some]
      rw [e3]
      simp only [Option.bind_some]
      rw [nl_1, e4]
      simp only [Option.bind_some]
      rw [e5]
      simp only [Option.bind_some]
      rw [nI_add]
      unfold mk_rg
      have g2 : ∀ a b, mk_gw S A h a b 0 = mk_g0 S A h a b := fun a b => if_pos rfl
      have g3 : ∀ a b, mk_gw S A h a b 1 = mk_g1 S A h a b := fun a b => if_neg (by omega)
      rw [g2, g2, g3, g3]
      by_cases c : mk_g0 S A h x y < mk_g0 S A h i y
      · exact ⟨M3, Or.inr ⟨(), by rw [if_pos c], ⟨x3, (f1.tr f2).tr f3⟩, by rw [if_pos c]⟩⟩
      · by_cases d : mk_g1 S A h x i ≤ mk_g1 S A h x y
        · exact ⟨M5, Or.inl ⟨(), by rw [if_neg c, if_pos d], ⟨x5, (((f1.tr f2).tr f3).tr f4).tr f5⟩, by rw [if_neg c, if_pos d]⟩⟩
        · exact ⟨M5, Or.inr ⟨(), by rw [if_neg c, if_neg d], ⟨x5, (((f1.tr f2).tr f3).tr f4).tr f5⟩, by rw [if_neg c, if_neg d]⟩⟩)
    (S 48 26) 0 N () M (by omega) (by omega) ⟨hM, mk_fm.rf⟩
  refine ⟨M', ?_⟩
  unfold mk_qu
  rcases hl with ⟨s, g, p, e⟩ | ⟨r, g, p, e⟩
  · rw [g]; exact ⟨e, p⟩
  · rw [g]; exact ⟨e, p⟩
/-- the a-th pair -/
def mk_pg (S : mk_S) (A : mk_L) (h : Nat) (a : Int32) (x : Nat) : Nat → Nat → Nat ⊕ Nat := fun y k => if mk_qu S A h x y then (if nI k = a then .inr (10 * x + y) else .inl (k + 1)) else .inl k
def mk_pp (S : mk_S) (A : mk_L) (h : Nat) (a : Int32) : Nat → Nat → Nat ⊕ Nat := fun x k => mk_fe (mk_pg S A h a x) (S 48 26) 0 k
theorem mk_Xpairs (hN : 1000 ≤ N) (hw : mk_W S A) {M : mj_M} (hX : mk_X S A M) {h : Nat} (hd : mk_du2 S A h 6 M) (a : Int32) : F_Duel_quietPair N a M = some (match mk_fe (mk_pp S A h a) (S 48 26) 0 0 with | .inl k => if a = -1 then nI k else -1 | .inr r => nI r, M) := by
  have t6 := hw.t6
  obtain ⟨M', hl⟩ := mk_lpe (L := fun n k i M => F_Duel_quietPair_b4 N n a (nI k) (nI i) M) (S 48 26) (mk_pp S A h a) (fun _ _ M1 => M1 = M) (fun M1 => M1 = M) (fun k M => some (if a = -1 then nI k else -1, M)) (fun r M => some (nI r, M))
    (fun n s M1 p => by
      subst p
      rw [F_Duel_quietPair_b4, hX.ts, if_pos (Int32.le_refl _)]
      split <;> rfl)
    (fun n0 k x M1 hx p => by
      subst p
      obtain ⟨M2, h2⟩ := mk_lpe (L := fun n k i M => F_Duel_quietPair_b18 N (F_Duel_quietPair_b4 N n0) n a (nI k) (nI x) (nI i) M) (S 48 26) (mk_pg S A h a x) (fun _ _ M2 => M2 = M1) (fun M2 => M2 = M1) (fun k M => F_Duel_quietPair_b4 N n0 a (nI k) (nI (x + 1)) M) (fun r M => some (nI r, M))
        (fun n s M2 p => by
          subst p
          rw [F_Duel_quietPair_b18, hX.ts, if_pos (Int32.le_refl _), nI_1])
        (fun n k y M2 hy p => by
          subst p
          refine ⟨M2, ?_⟩
          rw [F_Duel_quietPair_b18, hX.ts, if_neg (nI_ge hy (by omega)), mk_Xqu hN hw hX hd hx hy]
          simp only [Option.bind_some, mk_bi0]
          rw [nI_1, nI_1, nl_10, pk_mul, nI_add]
          unfold mk_pg
          cases hq : mk_qu S A h x y with
          | false => exact Or.inl ⟨k, rfl, by trivial, rfl⟩
          | true =>
            rw [if_neg (show ¬ true = false by simp), if_pos (show true = true from rfl)]
            by_cases d : nI k = a
            · exact Or.inr ⟨_, by rw [if_pos d], by trivial, by rw [if_pos d]⟩
            · exact Or.inl ⟨k + 1, by rw [if_neg d], by trivial, by rw [if_neg d]⟩)
        (S 48 26) 0 N k M1 (by omega) (by omega) rfl
      refine ⟨M1, ?_⟩
      rw [F_Duel_quietPair_b4, hX.ts, if_neg (nI_ge hx (by omega))]
      unfold mk_pp
      rcases h2 with ⟨s, g, p, e⟩ | ⟨r, g, p, e⟩
      · subst p; exact Or.inl ⟨s, g, rfl, e⟩
      · subst p; exact Or.inr ⟨r, g, rfl, e⟩)
    (S 48 26) 0 N 0 M (by omega) (by omega) rfl
  unfold F_Duel_quietPair
  rcases hl with ⟨s, g, p, e⟩ | ⟨r, g, p, e⟩
  · subst p; rw [g]; exact e
  · subst p; rw [g]; exact e
theorem mk_Mpairs (hN : 1000 ≤ N) (hw : mk_W S A) {M : mj_M} (hM : mk_M S A M) {h : Nat} (hh : h < S 48 25) (a : Int32) : ∃ M', F_M_rests_b20 N N (nI h) a 0 0 M = some (match mk_fe (mk_pp S A h a) (S 48 26) 0 0 with | .inl k => if a = -1 then nI k else -1 | .inr r => nI r, M') ∧ mk_M S A M' ∧ mk_fm M M' := by
  have t6 := hw.t6
  obtain ⟨M', hl⟩ := mk_lpe (L := fun n k i M => F_M_rests_b20 N n (nI h) a (nI k) (nI i) M) (S 48 26) (mk_pp S A h a) (fun _ _ M1 => mk_M S A M1 ∧ mk_fm M M1) (fun M1 => mk_M S A M1 ∧ mk_fm M M1) (fun k M => some (if a = -1 then nI k else -1, M)) (fun r M => some (nI r, M))
    (fun n s M1 p => by
      rw [F_M_rests_b20, p.1.ts, if_pos (Int32.le_refl _)]
      split <;> rfl)
    (fun n k x M1 hx p => by
      obtain ⟨p1, f1⟩ := p
      obtain ⟨M2, h2⟩ := mk_lpe (L := fun m k i M => F_M_rests_b32 N (F_M_rests_b20 N n) m (nI h) a (nI k) (nI x) (nI i) M) (S 48 26) (mk_pg S A h a x) (fun _ _ M2 => mk_M S A M2 ∧ mk_fm M M2) (fun M2 => mk_M S A M2 ∧ mk_fm M M2) (fun k M => F_M_rests_b20 N n (nI h) a (nI k) (nI (x + 1)) M) (fun r M => some (nI r, M))
        (fun m s M2 p => by
          rw [F_M_rests_b32, p.1.ts, if_pos (Int32.le_refl _), nI_1])
        (fun m k y M2 hy p => by
          obtain ⟨p2, f2⟩ := p
          obtain ⟨M3, e3, x3, f3⟩ := mk_Mqu hN hw p2 hh hx hy
          refine ⟨M3, ?_⟩
          rw [F_M_rests_b32, p2.ts, if_neg (nI_ge hy (by omega)), e3]
          simp only [Option.bind_some, mk_bi0]
          rw [nI_1, nI_1, nl_10, pk_mul, nI_add]
          unfold mk_pg
          cases hq : mk_qu S A h x y with
          | false => exact Or.inl ⟨k, rfl, ⟨x3, f2.tr f3⟩, rfl⟩
          | true =>
            rw [if_neg (show ¬ true = false by simp), if_pos (show true = true from rfl)]
            by_cases d : nI k = a
            · exact Or.inr ⟨_, by rw [if_pos d], ⟨x3, f2.tr f3⟩, by rw [if_pos d]⟩
            · exact Or.inl ⟨k + 1, by rw [if_neg d], ⟨x3, f2.tr f3⟩, by rw [if_neg d]⟩)
        (S 48 26) 0 N k M1 (by omega) (by omega) ⟨p1, f1⟩
      refine ⟨M2, ?_⟩
      rw [F_M_rests_b20, p1.ts, if_neg (nI_ge hx (by omega))]
      unfold mk_pp
      rcases h2 with ⟨s, g, p, e⟩ | ⟨r, g, p, e⟩
      · exact Or.inl ⟨s, g, p, e⟩
      · exact Or.inr ⟨r, g, p, e⟩)
    (S 48 26) 0 N 0 M (by omega) (by omega) ⟨hM, mk_fm.rf⟩
  refine ⟨M', ?_⟩
  rcases hl with ⟨s, g, p, e⟩ | ⟨r, g, p, e⟩
  · rw [g]; exact ⟨e, p⟩
  · rw [g]; exact ⟨e, p⟩
theorem mk_fe_inv {σ ρ : Type} {g : Nat → σ → σ ⊕ ρ} (I : Nat → σ → Prop) : ∀ d i s, (∀ j s, i ≤ j → j < i + d → I j s → ∃ s', g j s = .inl s' ∧ I (j + 1) s') → I i s → ∃ s', mk_fe g d i s = .inl s' ∧ I (i + d) s' := by
  intro d
  induction d with
  | zero => intro i s _ h; exact ⟨s, rfl, h⟩
  | succ d ih =>
    intro i s hg h
    obtain ⟨s1, e1, h1⟩ := hg i s (by omega) (by omega) h
    rw [mk_fe, e1, show i + (d + 1) = i + 1 + d by omega]
    exact ih (i + 1) s1 (fun j s h1 h2 => hg j s (by omega) (by omega)) h1
theorem mk_pp_none (hw : mk_W S A) {h : Nat} {a : Int32} (ha : a < -1) : ∃ k, mk_fe (mk_pp S A h a) (S 48 26) 0 0 = .inl k := by
  have t6 := hw.t6
  obtain ⟨k, e, _⟩ := mk_fe_inv (g := mk_pp S A h a) (fun i k => k ≤ 10 * i) (S 48 26) 0 0 (fun x k _ hx hk => by
    obtain ⟨k', e', hk'⟩ := mk_fe_inv (g := mk_pg S A h a x) (fun i k' => k' ≤ 10 * x + i) (S 48 26) 0 k (fun y k' _ hy hk' => by
      unfold mk_pg
      split
      · rw [if_neg (nw_below ha _ (by omega))]
        exact ⟨k' + 1, rfl, by omega⟩
      · exact ⟨k', rfl, by omega⟩) (by omega)
    exact ⟨k', e', by omega⟩) (by omega)
  exact ⟨k, e⟩
end Game
theorem op_28 {N : Nat} (hN : 1000 ≤ N) : mo_28 N mk_I := by
  intro M ⟨S, A, hw, hX, hM⟩ a b
  have h6 := hw.h6
  rcases mk_ix a (n := S 48 25) (by omega) with h | ⟨h, hh, rfl⟩
  · refine mk_fin (r := -1) hw hX hM (mk_QX.same fun M hX => ?_) (mk_QM.same fun M hM => ?_)
    · unfold F_W_rests; rw [mk_Xh0 hX h]; rfl
    · unfold F_M_rests; rw [mk_Mh0 hM hw h]; rfl
  refine mk_fin (r := match mk_fe (mk_pp S A h b) (S 48 26) 0 0 with | .inl k => if b = -1 then nI k else -1 | .inr r => nI r) hw hX hM (fun M hX => ?_) (fun M hM => ?_)
  · obtain ⟨M1, e1, f1, d1⟩ := mk_Xstand hN hw hX hh
    have x1 := f1.X hX
    refine ⟨M1, ?_, x1⟩
    unfold F_W_rests
    rw [mk_Xh1 hX hw hh]
    simp only [Option.bind_some]
    rw [if_neg (by decide +kernel), e1]
    simp only [Option.bind_some]
    rw [mk_Xpairs hN hw x1.1 d1]
    rfl
  · unfold F_M_rests
    rw [mk_Mh1 hM hw hh]
    simp only [Option.bind_some]
    rw [if_neg (by decide +kernel)]
    by_cases d : -1 ≤ b
    · rw [if_pos d]
      exact mk_Mpairs hN hw hM hh b
    · rw [if_neg d]
      have d2 : b < -1 := by
        apply Int32.lt_iff_toInt_lt.mpr
        have := fun k => d (Int32.le_iff_toInt_le.mpr k)
        exact Int.not_le.mp this
      obtain ⟨k, e⟩ := mk_pp_none hw (h := h) d2
      rw [e]
      refine ⟨M, ?_, hM, mk_fm.rf⟩
      show _ = some (if b = -1 then _ else _, M)
      rw [if_neg (fun k => by rw [k] at d2; exact absurd d2 (by decide +kernel))]
theorem op_27 {N : Nat} (hN : 1000 ≤ N) : mo_27 N mk_I := by
  intro M ⟨S, A, hw, hX, hM⟩ a x y w
  have h6 := hw.h6
  rcases mk_ix a (n := S 48 25) (by omega) with h | ⟨h, hh, rfl⟩
  · refine mk_fin (r := -1000000) hw hX hM (mk_QX.same fun M hX => ?_) (mk_QM.same fun M hM => ?_)
    · unfold F_W_game; rw [mk_Xh0 hX h]; rfl
    · unfold F_M_game; rw [mk_Mh0 hM hw h]; rfl
  rcases mk_ix x (n := 6) (by omega) with h' | ⟨x, hx, rfl⟩
  · refine mk_fin (r := -1000000) hw hX hM (mk_QX.same fun M hX => ?_) (mk_QM.same fun M hM => ?_)
    · unfold F_W_game; rw [mk_Xh1 hX hw hh]
      simp only [Option.bind_some]
      rw [if_neg (by decide +kernel), nl_6]
      by_cases c : x < 0
      · rw [if_pos c]
      · rw [if_neg c, if_pos (h'.resolve_left c)]
    · unfold F_M_game; rw [mk_Mh1 hM hw hh]
      simp only [Option.bind_some]
      rw [if_neg (by decide +kernel), nl_0, nl_5, mk_Mino h' (by omega)]; rfl
  rcases mk_ix y (n := 6) (by omega) with h' | ⟨y, hy, rfl⟩
  · refine mk_fin (r := -1000000) hw hX hM (mk_QX.same fun M hX => ?_) (mk_QM.same fun M hM => ?_)
    · unfold F_W_game; rw [mk_Xh1 hX hw hh]
      simp only [Option.bind_some]
      rw [if_neg (by decide +kernel), nl_6, if_neg (nI_pos (by omega)), if_neg (nI_ge hx (by omega))]
      by_cases c : y < 0
      · rw [if_pos c]
      · rw [if_neg c, if_pos (h'.resolve_left c)]
    · unfold F_M_game; rw [mk_Mh1 hM hw hh]
      simp only [Option.bind_some]
      rw [if_neg (by decide +kernel), nl_0, nl_5, mk_Mini (by omega) (by omega)]
      simp only [Option.bind_some]
      rw [if_neg (show ¬ nI 1 = nI 0 by decide +kernel), mk_Mino h' (by omega)]; rfl
  rcases mk_ix w (n := 2) (by omega) with h' | ⟨w, h2, rfl⟩
  · refine mk_fin (r := -1000000) hw hX hM (mk_QX.same fun M hX => ?_) (mk_QM.same fun M hM => ?_)
    · unfold F_W_game; rw [mk_Xh1 hX hw hh]
      simp only [Option.bind_some]
      rw [if_neg (by decide +kernel), nl_6, if_neg (nI_pos (by omega)), if_neg (nI_ge hx (by omega)), if_neg (nI_pos (by omega)), if_neg (nI_ge hy (by omega))]
      by_cases c : w < 0
      · rw [if_pos c]
      · rw [if_neg c, nl_1, if_neg (nw_gt (h'.resolve_left c) (by omega)).2.1]
    · unfold F_M_game; rw [mk_Mh1 hM hw hh]
      simp only [Option.bind_some]
      rw [if_neg (by decide +kernel), nl_0, nl_5, mk_Mini (by omega) (by omega)]
      simp only [Option.bind_some]
      rw [if_neg (show ¬ nI 1 = nI 0 by decide +kernel), mk_Mini (by omega) (by omega)]
      simp only [Option.bind_some]
      rw [if_neg (show ¬ nI 1 = nI 0 by decide +kernel), nl_1, mk_Mino h' (by omega)]; rfl
  refine mk_fin (r := mk_gw S A h x y w) hw hX hM (fun M hX => ?_) (fun M hM => ?_)
  · obtain ⟨M1, e1, f1, d1⟩ := mk_Xstand hN hw hX hh
    have x1 := f1.X hX
    refine ⟨M1, ?_, x1⟩
    unfold F_W_game
    rw [mk_Xh1 hX hw hh]
    simp only [Option.bind_some]
    rw [if_neg (by decide +kernel), nl_6, if_neg (nI_pos (by omega)), if_neg (nI_ge hx (by omega)), if_neg (nI_pos (by omega)), if_neg (nI_ge hy (by omega)), if_neg (nI_pos (by omega)), nl_1, if_pos (nI_le (by omega) (by omega)), e1]
    simp only [Option.bind_some]
    rw [mk_Xfirst hw x1.1 d1 hx hy, mk_Xsecond hw x1.1 d1 hx hy]
    simp (disch := omega) only [nl_0, nw_eq, Option.bind_some]
    unfold mk_gw
    split <;> rfl
  · obtain ⟨M1, e1, x1⟩ := mk_Mgame hN hw hM hh hx hy h2
    refine ⟨M1, ?_, x1⟩
    unfold F_M_game
    rw [mk_Mh1 hM hw hh]
    simp only [Option.bind_some]
    rw [if_neg (by decide +kernel), nl_0, nl_5, mk_Mini (by omega) (by omega)]
    simp only [Option.bind_some]
    rw [if_neg (show ¬ nI 1 = nI 0 by decide +kernel), mk_Mini (by omega) (by omega)]
    simp only [Option.bind_some]
    rw [if_neg (show ¬ nI 1 = nI 0 by decide +kernel), nl_1, mk_Mini (by omega) (by omega)]
    simp only [Option.bind_some]
    rw [if_neg (show ¬ nI 1 = nI 0 by decide +kernel), e1]
    rfl
