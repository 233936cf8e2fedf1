/-! ===== the pure side: round ===== -/
theorem mk_by_cg {S S' : mk_S} {A : mk_L} (h : ∀ c, c ≠ 65 → S' c = S c) (x t he kn : Nat) : mk_by S' A x t he kn = mk_by S A x t he kn := by
  unfold mk_by mk_w mk_lt
  rw [h 48 (by omega), h 62 (by omega), h 63 (by omega), h 64 (by omega)]
section Round
variable {N : Nat} {S : mk_S} {A : mk_L}
/-- a state on the way: all as in S but where he is, bread, what was heard, nights, put out -/
def mk_rs (S R : mk_S) : Prop := (∀ c, c ≠ 65 → R c = S c) ∧ (∀ k, 36 ≤ k → k < 42 ∨ k = 43 ∨ k = 45 ∨ 48 ≤ k → R 65 k = S 65 k) ∧ mk_W R A
def mk_rx (S : mk_S) (A : mk_L) (M0 : mj_M) (R : mk_S) (a b : Nat) (M : mj_M) : Prop := (∀ c, c ≠ 9 → c ≠ 12 → c ≠ 33 → c ≠ 36 → M c = M0 c) ∧ (∀ k, k < 36 → M 36 k = nI (R 65 k)) ∧ M 33 4 = nI a ∧ M 33 5 = nI b ∧ M 33 6 = nI (R 65 44)
def mk_rm (S : mk_S) (A : mk_L) (M0 : mj_M) (R : mk_S) (a b : Nat) (M : mj_M) : Prop := mk_M R A M ∧ mk_fm M0 M ∧ M 48 41 = nI a ∧ M 48 42 = nI b ∧ ∀ k, k < 48 → M 68 k = nI (S 65 k)
theorem mk_rx.X {M0 M : mj_M} {R : mk_S} {a b : Nat} (h : mk_rx S A M0 R a b M) (hX : mk_X S A M0) : mk_X S A M ∧ mk_fx M0 M :=
  ⟨hX.sc fun c hc => h.1 c (by unfold mk_sx at hc; omega) (by unfold mk_sx at hc; omega) (by unfold mk_sx at hc; omega) (by unfold mk_sx at hc; omega), fun c hc => h.1 c (by omega) (by omega) (by omega) (by omega)⟩
/-- he tells the best one there -/
def mk_rb (S : mk_S) (A : mk_L) (R : mk_S) : Option Nat := mk_best (mk_now R A (R 65 42)) (S 65 43) (S 48 26)
theorem mk_bg0 {f : Nat → Nat} {o t : Nat} : mk_bg f o t none = if nw_b o t = 0 then none else some t := rfl
theorem mk_bg1 {f : Nat → Nat} {o t b : Nat} : mk_bg f o t (some b) = if nw_b o t = 0 then some b else if f t ≤ f b then some b else some t := rfl
theorem mk_e2s {f : Nat → Nat} {t : Nat} : mk_e2 f (some t) = nI (f t) := rfl
def mk_oc {α : Type} (x : α) (f : Nat → α) : Option Nat → α
  | none => x
  | some t => f t
theorem mk_oc0 {α : Type} {x : α} {f : Nat → α} : mk_oc x f none = x := rfl
theorem mk_oc1 {α : Type} {x : α} {f : Nat → α} {t : Nat} : mk_oc x f (some t) = f t := rfl
def mk_rt (S : mk_S) (A : mk_L) (R : mk_S) : mk_S := mk_oc R (fun t => mk_t4 R t (mk_now R A (R 65 42) t)) (mk_rb S A R)
def mk_ra (S : mk_S) (A : mk_L) (R : mk_S) (a : Nat) : Nat := mk_oc a (fun _ => a + 1) (mk_rb S A R)
def mk_rn (S : mk_S) (A : mk_L) (R : mk_S) (b : Nat) : Nat := mk_oc b (fun t => b + mk_now R A (R 65 42) t) (mk_rb S A R)
theorem mk_t4_o {R : mk_S} {t n c : Nat} (hc : c ≠ 65) : mk_t4 R t n c = R c := by unfold mk_t4; rw [mk_un1 hc, mk_un1 hc, mk_un1 hc, mk_un1 hc]
theorem mk_t4_k {R : mk_S} {t n k : Nat} (h1 : k ≠ R 65 42 * 6 + t) (h2 : k ≠ 46) (h3 : k ≠ 44) (h4 : k ≠ 47) : mk_t4 R t n 65 k = R 65 k := by
  unfold mk_t4
  simp only [mk_u5]
  rw [mj_up_ne _ _ _ h4, mj_up_ne _ _ _ h3, mj_up_ne _ _ _ h2, mj_up_ne _ _ _ h1]
theorem mk_Wt4 {R : mk_S} (hw : mk_W R A) {t n : Nat} (h0 : 0 < R 48 25) (ht : t < R 48 26) : mk_W (mk_t4 R t n) A := by
  have h6 := hw.h6
  have t6 := hw.t6
  have hsp := hw.now.spotH h0
  have hb := hw.now.bread
  refine hw.now' (fun c hc => mk_t4_o hc) ?_ (mk_t4_k (by omega) (by omega) (by omega) (by omega))
  unfold mk_t4
  simp only [mk_u5]
  refine (((hw.now.uh t6 h6 hsp ht (by omega)).u46 t6).u44 t6 ?_).u47 t6
  unfold mk_ba
  split <;> omega
theorem mk_rbl {R : mk_S} : mk_ol (S 48 26) (mk_rb S A R) := by
  unfold mk_rb mk_best
  have := mk_fo_inv (g := mk_bg (mk_now R A (R 65 42)) (S 65 43)) (fun _ s => mk_ol (S 48 26) s) (S 48 26) 0 none (fun j s _ hj hs => mk_bg_l hs (by omega)) trivial
  exact this
theorem mk_rt_rs {R : mk_S} (h : mk_rs (A := A) S R) (h0 : 0 < S 48 25) : mk_rs (A := A) S (mk_rt S A R) ∧ mk_rt S A R 65 42 = R 65 42 := by
  obtain ⟨h1, h2, h3⟩ := h
  have hl := mk_rbl (S := S) (A := A) (R := R)
  have hs := h3.now.spot
  have h25 : R 48 = S 48 := h1 48 (by omega)
  unfold mk_rt
  cases hb : mk_rb S A R with
  | none => rw [mk_oc0]; exact ⟨⟨h1, h2, h3⟩, rfl⟩
  | some t =>
    rw [mk_oc1]
    rw [hb] at hl
    have ht : t < S 48 26 := hl
    have t6 := h3.t6
    rw [h25] at t6
    refine ⟨⟨fun c hc => (mk_t4_o hc).trans (h1 c hc), fun k k1 k2 => ?_, mk_Wt4 h3 (by rw [h25]; exact h0) (by rw [h25]; exact ht)⟩, ?_⟩
    · rw [mk_t4_k (by omega) (by omega) (by omega) (by omega)]
      exact h2 k k1 k2
    · rw [mk_t4_k (by omega) (by omega) (by omega) (by omega)]
theorem mk_bg_cg {f g : Nat → Nat} {o T : Nat} (h : ∀ t, t < T → f t = g t) : ∀ d i s, i + d ≤ T → mk_ol T s → mk_fo (mk_bg f o) d i s = mk_fo (mk_bg g o) d i s := by
  intro d
  induction d with
  | zero => intro i s _ _; rfl
  | succ d ih =>
    intro i s hi hs
    have e : mk_bg f o i s = mk_bg g o i s := by
      cases s with
      | none => rw [mk_bg0, mk_bg0]
      | some b =>
        have hb : b < T := hs
        rw [mk_bg1, mk_bg1, h i (by omega), h b hb]
    rw [mk_fo, mk_fo, e]
    exact ih (i + 1) _ (by omega) (mk_bg_l hs (by omega))
theorem mk_now_x {R : mk_S} (h1 : ∀ c, c ≠ 65 → R c = S c) (h2 : ∀ t, t < S 48 26 → R 65 (36 + t) = S 65 (36 + t)) (t : Nat) (ht : t < S 48 26) : mk_by S A (R 65 42) t (R 65 (R 65 42 * 6 + t)) (S 65 (36 + t)) = mk_now R A (R 65 42) t := by
  unfold mk_now
  rw [mk_by_cg h1, h2 t ht]
theorem mk_rb_x {R : mk_S} (h1 : ∀ c, c ≠ 65 → R c = S c) (h2 : ∀ t, t < S 48 26 → R 65 (36 + t) = S 65 (36 + t)) : mk_best (fun t => mk_by S A (R 65 42) t (R 65 (R 65 42 * 6 + t)) (S 65 (36 + t))) (S 65 43) (S 48 26) = mk_rb S A R := by
  unfold mk_rb mk_best
  exact mk_bg_cg (mk_now_x h1 h2) (S 48 26) 0 none (by omega) trivial
theorem mk_Xrt1 {M0 M M1 : mj_M} {R : mk_S} {a b t n : Nat} (hs : R 65 42 < 6) (ht : t < 6) (hbr : R 65 44 ≤ 999) (h99 : R 65 (R 65 42 * 6 + t) ≤ 99) (h20 : n ≤ 20) (hr : mk_rx S A M0 R a b M) (p1 : mk_pl M M1) (q1 : M1 33 1 = nI n) (F : Option mj_M) (hF : F = mj_lt ((nI (R 65 42) * (6 : Int32)) + nI t) (fun v3 => mj_ck v3 36 ((F_Stand_heardOnceMore (M1 36 v3.toNatClampNeg) M1).bind (fun q4 => mj_ck v3 36 (mj_lt (mj_u q4.2 36 v3.toNatClampNeg q4.1) (fun M5 => mj_lt (mj_u M5 33 4 ((M5 33 4) + (1 : Int32))) (fun M6 => mj_lt (mj_u M6 33 5 ((M6 33 5) + (M6 33 1))) (fun M7 => (F_Stand_breadAfter (M7 33 6) (M7 33 1) M7).bind (fun q8 => mj_lt (mj_u q8.2 33 6 q8.1) (fun M9 => some M9)))))))))) : ∃ M', F = some M' ∧ mk_rx S A M0 (mk_t4 R t n) (a + 1) (b + n) M' := by
  obtain ⟨r1, r2, r3, r4, r5⟩ := hr
  rw [hF]
  simp only [mj_lt]
  have m36 : M1 36 (R 65 42 * 6 + t) = nI (R 65 (R 65 42 * 6 + t)) := by rw [p1.1 36 (by omega) (by omega) (by omega)]; exact r2 _ (by omega)
  rw [nl_6, pk_mul, nI_add, nw_ck (by omega) (by omega), nI_clamp (by omega), m36]
  unfold F_Stand_heardOnceMore
  simp only [mk_bs]
  rw [nI_1, nl_99, nw_min (by omega) (by omega), nw_ck (by omega) (by omega)]
  simp (disch := omega) only [nw_u9, mj_u_eq, mj_up_ne, mj_up_eq]
  rw [p1.2 4 (by omega), r3, p1.2 5 (by omega), r4, p1.2 6 (by omega), r5, q1, nI_1, nI_add]
  have eba : ∀ M7 : mj_M, F_Stand_breadAfter (nI (R 65 44)) (nI n) M7 = some (nI (mk_ba (R 65 44) n), M7) := by
    intro M7
    unfold F_Stand_breadAfter mk_ba
    rw [(nw_max0 (b := R 65 44) (by omega)).1, nl_3, pk_div (by omega) (by omega) (by omega), nI_add, nl_999, nw_min (by omega) (by omega)]
    simp (disch := omega) only [nl_0, nw_eq]
    split <;> rfl
  rw [eba]
  simp only [mk_bs]
  refine ⟨_, rfl, fun c c1 c2 c3 c4 => ?_, fun k hk => ?_, ?_, ?_, ?_⟩
  · rw [nw_u9 _ c3, nw_u9 _ c3, nw_u9 _ c3, nw_u9 _ c4, p1.1 c c1 c2 c3]; exact r1 c c1 c2 c3 c4
  · rw [nw_u9 _ (by omega), nw_u9 _ (by omega), nw_u9 _ (by omega), mj_u_eq]
    by_cases e : k = R 65 42 * 6 + t
    · rw [e, mj_up_eq]
      unfold mk_t4
      simp only [mk_u5]
      rw [mj_up_ne _ _ _ (by omega), mj_up_ne _ _ _ (by omega), mj_up_ne _ _ _ (by omega), mj_up_eq]
    · rw [mj_up_ne _ _ _ e, mk_t4_k e (by omega) (by omega) (by omega), p1.1 36 (by omega) (by omega) (by omega)]
      exact r2 k hk
  · rw [mj_u_eq, mj_up_ne _ _ _ (by omega), mj_u_eq, mj_up_ne _ _ _ (by omega), mj_u_eq, mj_up_eq]
  · rw [mj_u_eq, mj_up_ne _ _ _ (by omega), mj_u_eq, mj_up_eq]
  · rw [mj_u_eq, mj_up_eq]
    unfold mk_t4
    simp only [mk_u5]
    rw [mj_up_ne _ _ _ (by omega), mj_up_eq]
theorem mk_Xrt (hN : 10000 ≤ N) (hw : mk_W S A) {M0 M : mj_M} (hX : mk_X S A M0) {R : mk_S} {a b : Nat} (h : mk_rs (A := A) S R) (h0 : 0 < S 48 25) (hr : mk_rx S A M0 R a b M) : ∃ M', F_Plans_tellBestOnRound N (nI (R 65 42)) M = some M' ∧ mk_rx S A M0 (mk_rt S A R) (mk_ra S A R a) (mk_rn S A R b) M' := by
  obtain ⟨h1, h2, h3⟩ := h
  have h25 : R 48 = S 48 := h1 48 (by omega)
  have h6 := hw.h6
  have t6 := hw.t6
  have hs := h3.now.spot
  have hsp := h3.now.spotH (by rw [h25]; exact h0)
  rw [h25] at hsp
  have hbr := h3.now.bread
  obtain ⟨x1, -⟩ := hr.X hX
  obtain ⟨r1, r2, r3, r4, r5⟩ := hr
  obtain ⟨M1, e1, p1, q0, q1, ql⟩ := mk_Xbest36 (N := N) (by omega) hw x1 hsp (rh := R 65) (fun k hk => ⟨r2 k hk, h3.now.heard k hk⟩)
  have eb := mk_rb_x (S := S) (A := A) h1 (fun t ht => h2 (36 + t) (by omega) (by omega))
  rw [eb] at q0 q1 ql
  unfold F_Plans_tellBestOnRound
  rw [e1]
  simp only [mk_bs]
  rw [q0]
  unfold mk_rt mk_ra mk_rn
  cases hb : mk_rb S A R with
  | none =>
    rw [mk_oc0, mk_oc0, mk_oc0, if_pos (show mk_e1 none = -1 from rfl)]
    refine ⟨M1, rfl, fun c c1 c2 c3 c4 => by rw [p1.1 c c1 c2 c3]; exact r1 c c1 c2 c3 c4, fun k hk => by rw [p1.1 36 (by omega) (by omega) (by omega)]; exact r2 k hk, by rw [p1.2 4 (by omega)]; exact r3, by rw [p1.2 5 (by omega)]; exact r4, by rw [p1.2 6 (by omega)]; exact r5⟩
  | some t =>
    rw [hb] at q0 q1 ql
    have ht : t < S 48 26 := ql
    have en := mk_now_x (A := A) h1 (fun t ht => h2 (36 + t) (by omega) (by omega)) t ht
    have h20 := mk_now20 R A (R 65 42) t
    have q1 : M1 33 1 = nI (mk_now R A (R 65 42) t) := by rw [q1, mk_e2s]; exact congrArg nI en
    rw [if_neg (show ¬ mk_e1 (some t) = (-1 : Int32) from (show ¬ nI t = -nI 1 by simp (disch := omega) only [nw_eqm]; trivial))]
    rw [mk_oc1, mk_oc1, mk_oc1, show mk_e1 (some t) = nI t from rfl]
    exact mk_Xrt1 h3.now.spot (by omega) h3.now.bread (h3.now.heard (R 65 42 * 6 + t) (by omega)) h20 ⟨r1, r2, r3, r4, r5⟩ p1 q1 _ rfl
theorem mk_Mrt (hN : 10000 ≤ N) {M0 M : mj_M} {R : mk_S} {a b : Nat} (h : mk_rs (A := A) S R) (h0 : 0 < S 48 25) (hr : mk_rm S A M0 R a b M) : ∃ M', F_M_tellBest N M = some M' ∧ mk_rm S A M0 (mk_rt S A R) (mk_ra S A R a) (mk_rn S A R b) M' := by
  obtain ⟨h1, h2, h3⟩ := h
  have h25 : R 48 = S 48 := h1 48 (by omega)
  obtain ⟨r1, r2, r3, r4, r5⟩ := hr
  have hsp := h3.now.spotH (by rw [h25]; exact h0)
  have t6 := h3.t6
  obtain ⟨M1, e1, f1, l1⟩ := mk_Mbest (N := N) (by omega) h3 r1 hsp
  have eb : mk_best (mk_now R A (R 65 42)) (R 65 43) (R 48 26) = mk_rb S A R := by unfold mk_rb; rw [h2 43 (by omega) (by omega), h25]
  rw [eb] at e1 l1
  obtain ⟨x1, g1⟩ := r1.q f1
  unfold F_M_tellBest
  rw [r1.now 42 (by omega), e1]
  simp only [mk_bs]
  unfold mk_rt mk_ra mk_rn
  cases hb : mk_rb S A R with
  | none =>
    rw [mk_oc0, mk_oc0, mk_oc0, if_pos (show mk_e1 none = -1 from rfl)]
    exact ⟨M1, rfl, x1, r2.tr g1, by rw [f1 48 (by omega) (by omega)]; exact r3, by rw [f1 48 (by omega) (by omega)]; exact r4, fun k hk => by rw [f1 68 (by omega) (by omega)]; exact r5 k hk⟩
  | some t =>
    rw [hb] at l1
    have ht : t < R 48 26 := l1
    rw [mk_oc1, mk_oc1, mk_oc1, if_neg (show ¬ mk_e1 (some t) = (-1 : Int32) from (show ¬ nI t = -nI 1 by simp (disch := omega) only [nw_eqm]; trivial)), show mk_e1 (some t) = nI t from rfl]
    obtain ⟨M2, e2, x2, f2, g2⟩ := mk_MtellNow hN h3 x1 (by rw [h25]; exact h0) ht
    rw [e2]
    simp only [mk_bs, mj_lt]
    rw [f1 48 (by omega) (by omega), r4, nI_add]
    simp (disch := omega) only [mj_u_eq, mj_up_ne]
    rw [g2 48 (by omega) (by omega) (by omega), f1 48 (by omega) (by omega), r3, nI_1]
    refine ⟨_, rfl, ?_, (((r2.tr g1).tr f2).u (by omega)).u (by omega), ?_, ?_, fun k hk => ?_⟩
    · refine x2.sc (fun c j hc => ?_)
      by_cases d : c = 48
      · subst d
        have : j ≠ 41 ∧ j ≠ 42 := by unfold mk_sm at hc; omega
        rw [mj_u_eq, mj_up_ne _ _ _ this.1, mj_u_eq, mj_up_ne _ _ _ this.2]
      · rw [nw_u9 _ d, nw_u9 _ d]
    · rw [mj_u_eq, mj_up_eq]
    · rw [mj_u_eq, mj_up_ne _ _ _ (by omega), mj_u_eq, mj_up_eq]
    · rw [nw_u9 _ (by omega), nw_u9 _ (by omega), g2 68 (by omega) (by omega) (by omega), f1 68 (by omega) (by omega)]
      exact r5 k hk
/-- a step on the way -/
def mk_go (R : mk_S) (h : Nat) : mk_S := mk_u (mk_u R 65 44 (R 65 44 - 1)) 65 42 h
theorem mk_go_rs {R : mk_S} (h : mk_rs (A := A) S R) {x : Nat} (hx : x < S 48 25) (h6 : S 48 25 ≤ 6) : mk_rs (A := A) S (mk_go R x) ∧ mk_go R x 65 42 = x := by
  obtain ⟨h1, h2, h3⟩ := h
  have h25 : R 48 = S 48 := h1 48 (by omega)
  have hb := h3.now.bread
  unfold mk_go
  refine ⟨⟨fun c hc => by rw [mk_un1 hc, mk_un1 hc]; exact h1 c hc, fun k k1 k2 => ?_, h3.now' (fun c hc => by rw [mk_un1 hc, mk_un1 hc]) ?_ ?_⟩, ?_⟩
  · simp only [mk_u5]
    rw [mj_up_ne _ _ _ (by omega), mj_up_ne _ _ _ (by omega)]
    exact h2 k k1 k2
  · simp only [mk_u5]
    exact (h3.now.u44 h3.t6 (by omega)).u42 h3.t6 (by rw [h25]; exact hx) (by omega)
  · simp only [mk_u5]
    rw [mj_up_ne _ _ _ (by omega), mj_up_ne _ _ _ (by omega)]
  · simp only [mk_u5]
    rw [mj_up_eq]
theorem mk_Mgo1 {M0 M : mj_M} {R : mk_S} {a b x : Nat} (h : mk_rs (A := A) S R) (hr : mk_rm S A M0 R a b M) (hx : x < 6) (hd : nw_d x (R 65 42) = 1) (hb : 1 ≤ R 65 44) : ∃ M', F_M_goNow (nI x) M = some M' ∧ mk_rm S A M0 (mk_go R x) a b M' := by
  obtain ⟨r1, r2, r3, r4, r5⟩ := hr
  unfold F_M_goNow
  rw [mk_Mfar r1 h.2.2 hx]
  simp only [mk_bs, mj_lt]
  rw [r1.now 44 (by omega), hd, pk_sub hb]
  exact ⟨_, rfl, r1.n.n, (r2.u (by omega)).u (by omega), by rw [nw_u9 _ (by omega), nw_u9 _ (by omega)]; exact r3, by rw [nw_u9 _ (by omega), nw_u9 _ (by omega)]; exact r4, fun k hk => by rw [nw_u9 _ (by omega), nw_u9 _ (by omega)]; exact r5 k hk⟩
/-- what the written one does behind a telling -/
def mk_xp (N : Nat) (k : Int32 → Int32 → Int32 → Int32 → mj_M → Option mj_M) (last h st i : Int32) (M : mj_M) : Option mj_M := if (M 33 6) < (1 : Int32) then some M else (if h = (0) then (if (0) ≤ st then F_Plans_goRound_b100 N k last h st i M else some M) else F_Plans_goRound_b100 N k last h st i M)
theorem mk_Xgo1 {M0 M : mj_M} {R : mk_S} {a b x y : Nat} (hr : mk_rx S A M0 R a b M) (hb : 1 ≤ R 65 44) (hb9 : R 65 44 ≤ 999) (k : Int32 → Int32 → Int32 → Int32 → mj_M → Option mj_M) (last st i : Int32) (h : Nat) (hs : nI h + st = nI x) : ∃ M', F_Plans_goRound_b100 N k last (nI h) st i M = (if nI x = last then k last (nI x) (-1) (i + 1) M' else k last (nI x) st (i + 1) M') ∧ mk_rx S A M0 (mk_go R x) a b M' := by
  obtain ⟨r1, r2, r3, r4, r5⟩ := hr
  unfold F_Plans_goRound_b100
  simp only [mj_lt]
  rw [r5, nl_1, pk_sub hb, hs]
  refine ⟨_, rfl, fun c c1 c2 c3 c4 => by rw [nw_u9 _ c3]; exact r1 c c1 c2 c3 c4, fun k hk => ?_, by rw [mj_u_eq, mj_up_ne _ _ _ (by omega)]; exact r3, by rw [mj_u_eq, mj_up_ne _ _ _ (by omega)]; exact r4, ?_⟩
  · rw [nw_u9 _ (by omega)]
    unfold mk_go
    simp only [mk_u5]
    rw [mj_up_ne _ _ _ (by omega), mj_up_ne _ _ _ (by omega)]
    exact r2 k hk
  · rw [mj_u_eq, mj_up_eq]
    unfold mk_go
    simp only [mk_u5]
    rw [mj_up_ne _ _ _ (by omega), mj_up_eq]
end Round
